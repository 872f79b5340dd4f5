theorem dMo_sign_0 : decode prog_9_method_46_code 0 = .ok (.iload_n 1, 1) := by decide +kernel
theorem dMo_sign_1 : decode prog_9_method_46_code 1 = .ok (.invokestatic 166, 3) := by decide +kernel
theorem dMo_sign_4 : decode prog_9_method_46_code 4 = .ok (.istore_n 2, 1) := by decide +kernel
theorem dMo_sign_5 : decode prog_9_method_46_code 5 = .ok (.iload_n 2, 1) := by decide +kernel
theorem dMo_sign_6 : decode prog_9_method_46_code 6 = .ok (.ifCond .ge 5, 3) := by decide +kernel
theorem dMo_sign_9 : decode prog_9_method_46_code 9 = .ok (.iconst (-1), 1) := by decide +kernel
theorem dMo_sign_10 : decode prog_9_method_46_code 10 = .ok (.ireturn, 1) := by decide +kernel
theorem dMo_sign_11 : decode prog_9_method_46_code 11 = .ok (.aload_n 0, 1) := by decide +kernel
theorem dMo_sign_12 : decode prog_9_method_46_code 12 = .ok (.getfield 83, 3) := by decide +kernel
theorem dMo_sign_15 : decode prog_9_method_46_code 15 = .ok (.iload_n 2, 1) := by decide +kernel
theorem dMo_sign_16 : decode prog_9_method_46_code 16 = .ok (.if_icmp .ge 6, 3) := by decide +kernel
theorem dMo_sign_19 : decode prog_9_method_46_code 19 = .ok (.bipush (-2), 2) := by decide +kernel
theorem dMo_sign_21 : decode prog_9_method_46_code 21 = .ok (.ireturn, 1) := by decide +kernel
theorem dMo_sign_22 : decode prog_9_method_46_code 22 = .ok (.bipush 25, 2) := by decide +kernel
theorem dMo_sign_24 : decode prog_9_method_46_code 24 = .ok (.aload_n 0, 1) := by decide +kernel
theorem dMo_sign_25 : decode prog_9_method_46_code 25 = .ok (.getfield 83, 3) := by decide +kernel
theorem dMo_sign_28 : decode prog_9_method_46_code 28 = .ok (.iadd, 1) := by decide +kernel
theorem dMo_sign_29 : decode prog_9_method_46_code 29 = .ok (.istore_n 3, 1) := by decide +kernel
theorem dMo_sign_30 : decode prog_9_method_46_code 30 = .ok (.iload_n 2, 1) := by decide +kernel
theorem dMo_sign_31 : decode prog_9_method_46_code 31 = .ok (.iconst 2, 1) := by decide +kernel
theorem dMo_sign_32 : decode prog_9_method_46_code 32 = .ok (.if_icmp .ne 9, 3) := by decide +kernel
theorem dMo_sign_35 : decode prog_9_method_46_code 35 = .ok (.iload_n 1, 1) := by decide +kernel
theorem dMo_sign_36 : decode prog_9_method_46_code 36 = .ok (.bipush 114, 2) := by decide +kernel
theorem dMo_sign_38 : decode prog_9_method_46_code 38 = .ok (.if_icmp .ne 15, 3) := by decide +kernel
theorem dMo_sign_41 : decode prog_9_method_46_code 41 = .ok (.iload_n 1, 1) := by decide +kernel
theorem dMo_sign_42 : decode prog_9_method_46_code 42 = .ok (.bipush 118, 2) := by decide +kernel
theorem dMo_sign_44 : decode prog_9_method_46_code 44 = .ok (.if_icmp .eq 9, 3) := by decide +kernel
theorem dMo_sign_47 : decode prog_9_method_46_code 47 = .ok (.iload_n 1, 1) := by decide +kernel
theorem dMo_sign_48 : decode prog_9_method_46_code 48 = .ok (.bipush 107, 2) := by decide +kernel
theorem dMo_sign_50 : decode prog_9_method_46_code 50 = .ok (.if_icmp .ne 7, 3) := by decide +kernel
theorem dMo_sign_53 : decode prog_9_method_46_code 53 = .ok (.iconst 1, 1) := by decide +kernel
theorem dMo_sign_54 : decode prog_9_method_46_code 54 = .ok (.goto 4, 3) := by decide +kernel
theorem dMo_sign_57 : decode prog_9_method_46_code 57 = .ok (.iconst 0, 1) := by decide +kernel
theorem dMo_sign_58 : decode prog_9_method_46_code 58 = .ok (.istore 4, 2) := by decide +kernel
theorem dMo_sign_60 : decode prog_9_method_46_code 60 = .ok (.iload 4, 2) := by decide +kernel
theorem dMo_sign_62 : decode prog_9_method_46_code 62 = .ok (.ifCond .eq 14, 3) := by decide +kernel
theorem dMo_sign_65 : decode prog_9_method_46_code 65 = .ok (.aload_n 0, 1) := by decide +kernel
theorem dMo_sign_66 : decode prog_9_method_46_code 66 = .ok (.iload_n 2, 1) := by decide +kernel
theorem dMo_sign_67 : decode prog_9_method_46_code 67 = .ok (.invokevirtual 169, 3) := by decide +kernel
theorem dMo_sign_70 : decode prog_9_method_46_code 70 = .ok (.ifCond .ne 6, 3) := by decide +kernel
theorem dMo_sign_73 : decode prog_9_method_46_code 73 = .ok (.bipush (-3), 2) := by decide +kernel
theorem dMo_sign_75 : decode prog_9_method_46_code 75 = .ok (.ireturn, 1) := by decide +kernel
theorem dMo_sign_76 : decode prog_9_method_46_code 76 = .ok (.iload 4, 2) := by decide +kernel
theorem dMo_sign_78 : decode prog_9_method_46_code 78 = .ok (.ifCond .eq 38, 3) := by decide +kernel
theorem dMo_sign_81 : decode prog_9_method_46_code 81 = .ok (.iload_n 1, 1) := by decide +kernel
theorem dMo_sign_82 : decode prog_9_method_46_code 82 = .ok (.bipush 107, 2) := by decide +kernel
theorem dMo_sign_84 : decode prog_9_method_46_code 84 = .ok (.if_icmp .eq 32, 3) := by decide +kernel
theorem dMo_sign_87 : decode prog_9_method_46_code 87 = .ok (.aload_n 0, 1) := by decide +kernel
theorem dMo_sign_88 : decode prog_9_method_46_code 88 = .ok (.iload_n 1, 1) := by decide +kernel
theorem dMo_sign_89 : decode prog_9_method_46_code 89 = .ok (.iload_n 3, 1) := by decide +kernel
theorem dMo_sign_90 : decode prog_9_method_46_code 90 = .ok (.iload_n 2, 1) := by decide +kernel
theorem dMo_sign_91 : decode prog_9_method_46_code 91 = .ok (.isub, 1) := by decide +kernel
theorem dMo_sign_92 : decode prog_9_method_46_code 92 = .ok (.iconst 1, 1) := by decide +kernel
theorem dMo_sign_93 : decode prog_9_method_46_code 93 = .ok (.iadd, 1) := by decide +kernel
theorem dMo_sign_94 : decode prog_9_method_46_code 94 = .ok (.iload_n 3, 1) := by decide +kernel
theorem dMo_sign_95 : decode prog_9_method_46_code 95 = .ok (.invokevirtual 172, 3) := by decide +kernel
theorem dMo_sign_98 : decode prog_9_method_46_code 98 = .ok (.istore 5, 2) := by decide +kernel
theorem dMo_sign_100 : decode prog_9_method_46_code 100 = .ok (.iload 5, 2) := by decide +kernel
theorem dMo_sign_102 : decode prog_9_method_46_code 102 = .ok (.ifCond .ge 8, 3) := by decide +kernel
theorem dMo_sign_105 : decode prog_9_method_46_code 105 = .ok (.iload 5, 2) := by decide +kernel
theorem dMo_sign_107 : decode prog_9_method_46_code 107 = .ok (.goto 8, 3) := by decide +kernel
theorem dMo_sign_110 : decode prog_9_method_46_code 110 = .ok (.aload_n 0, 1) := by decide +kernel
theorem dMo_sign_111 : decode prog_9_method_46_code 111 = .ok (.iload_n 2, 1) := by decide +kernel
theorem dMo_sign_112 : decode prog_9_method_46_code 112 = .ok (.invokevirtual 163, 3) := by decide +kernel
theorem dMo_sign_115 : decode prog_9_method_46_code 115 = .ok (.ireturn, 1) := by decide +kernel
theorem dMo_sign_116 : decode prog_9_method_46_code 116 = .ok (.iload_n 1, 1) := by decide +kernel
theorem dMo_sign_117 : decode prog_9_method_46_code 117 = .ok (.lookupswitch 220 #[(75, 152), (88, 190), (90, 173), (99, 130), (100, 117), (107, 167), (113, 207), (114, 91), (120, 214), (122, 137)], 91) := by decide +kernel
theorem dMo_sign_208 : decode prog_9_method_46_code 208 = .ok (.aload_n 0, 1) := by decide +kernel
theorem dMo_sign_209 : decode prog_9_method_46_code 209 = .ok (.bipush 46, 2) := by decide +kernel
theorem dMo_sign_211 : decode prog_9_method_46_code 211 = .ok (.iload_n 3, 1) := by decide +kernel
theorem dMo_sign_212 : decode prog_9_method_46_code 212 = .ok (.invokevirtual 86, 3) := by decide +kernel
theorem dMo_sign_215 : decode prog_9_method_46_code 215 = .ok (.aload_n 0, 1) := by decide +kernel
theorem dMo_sign_216 : decode prog_9_method_46_code 216 = .ok (.iload_n 3, 1) := by decide +kernel
theorem dMo_sign_217 : decode prog_9_method_46_code 217 = .ok (.iload_n 3, 1) := by decide +kernel
theorem dMo_sign_218 : decode prog_9_method_46_code 218 = .ok (.iconst 1, 1) := by decide +kernel
theorem dMo_sign_219 : decode prog_9_method_46_code 219 = .ok (.isub, 1) := by decide +kernel
theorem dMo_sign_220 : decode prog_9_method_46_code 220 = .ok (.invokevirtual 86, 3) := by decide +kernel
theorem dMo_sign_223 : decode prog_9_method_46_code 223 = .ok (.aload_n 0, 1) := by decide +kernel
theorem dMo_sign_224 : decode prog_9_method_46_code 224 = .ok (.iload_n 3, 1) := by decide +kernel
theorem dMo_sign_225 : decode prog_9_method_46_code 225 = .ok (.iconst 1, 1) := by decide +kernel
theorem dMo_sign_226 : decode prog_9_method_46_code 226 = .ok (.isub, 1) := by decide +kernel
theorem dMo_sign_227 : decode prog_9_method_46_code 227 = .ok (.bipush 46, 2) := by decide +kernel
theorem dMo_sign_229 : decode prog_9_method_46_code 229 = .ok (.invokevirtual 86, 3) := by decide +kernel
theorem dMo_sign_232 : decode prog_9_method_46_code 232 = .ok (.iconst 0, 1) := by decide +kernel
theorem dMo_sign_233 : decode prog_9_method_46_code 233 = .ok (.ireturn, 1) := by decide +kernel
theorem dMo_sign_234 : decode prog_9_method_46_code 234 = .ok (.aload_n 0, 1) := by decide +kernel
theorem dMo_sign_235 : decode prog_9_method_46_code 235 = .ok (.bipush 46, 2) := by decide +kernel
theorem dMo_sign_237 : decode prog_9_method_46_code 237 = .ok (.iload_n 3, 1) := by decide +kernel
theorem dMo_sign_238 : decode prog_9_method_46_code 238 = .ok (.invokevirtual 86, 3) := by decide +kernel
theorem dMo_sign_241 : decode prog_9_method_46_code 241 = .ok (.aload_n 0, 1) := by decide +kernel
theorem dMo_sign_242 : decode prog_9_method_46_code 242 = .ok (.iconst 0, 1) := by decide +kernel
theorem dMo_sign_243 : decode prog_9_method_46_code 243 = .ok (.invokevirtual 163, 3) := by decide +kernel
theorem dMo_sign_246 : decode prog_9_method_46_code 246 = .ok (.ireturn, 1) := by decide +kernel
theorem dMo_sign_247 : decode prog_9_method_46_code 247 = .ok (.aload_n 0, 1) := by decide +kernel
theorem dMo_sign_248 : decode prog_9_method_46_code 248 = .ok (.iconst 0, 1) := by decide +kernel
theorem dMo_sign_249 : decode prog_9_method_46_code 249 = .ok (.putfield 83, 3) := by decide +kernel
theorem dMo_sign_252 : decode prog_9_method_46_code 252 = .ok (.iconst 0, 1) := by decide +kernel
theorem dMo_sign_253 : decode prog_9_method_46_code 253 = .ok (.ireturn, 1) := by decide +kernel
theorem dMo_sign_254 : decode prog_9_method_46_code 254 = .ok (.aload_n 0, 1) := by decide +kernel
theorem dMo_sign_255 : decode prog_9_method_46_code 255 = .ok (.aload_n 0, 1) := by decide +kernel
theorem dMo_sign_256 : decode prog_9_method_46_code 256 = .ok (.getfield 83, 3) := by decide +kernel
theorem dMo_sign_259 : decode prog_9_method_46_code 259 = .ok (.invokevirtual 175, 3) := by decide +kernel
theorem dMo_sign_262 : decode prog_9_method_46_code 262 = .ok (.pop, 1) := by decide +kernel
theorem dMo_sign_263 : decode prog_9_method_46_code 263 = .ok (.aload_n 0, 1) := by decide +kernel
theorem dMo_sign_264 : decode prog_9_method_46_code 264 = .ok (.iconst 0, 1) := by decide +kernel
theorem dMo_sign_265 : decode prog_9_method_46_code 265 = .ok (.invokevirtual 163, 3) := by decide +kernel
theorem dMo_sign_268 : decode prog_9_method_46_code 268 = .ok (.ireturn, 1) := by decide +kernel
theorem dMo_sign_269 : decode prog_9_method_46_code 269 = .ok (.aload_n 0, 1) := by decide +kernel
theorem dMo_sign_270 : decode prog_9_method_46_code 270 = .ok (.aload_n 0, 1) := by decide +kernel
theorem dMo_sign_271 : decode prog_9_method_46_code 271 = .ok (.getfield 98, 3) := by decide +kernel
theorem dMo_sign_274 : decode prog_9_method_46_code 274 = .ok (.invokevirtual 175, 3) := by decide +kernel
theorem dMo_sign_277 : decode prog_9_method_46_code 277 = .ok (.pop, 1) := by decide +kernel
theorem dMo_sign_278 : decode prog_9_method_46_code 278 = .ok (.aload_n 0, 1) := by decide +kernel
theorem dMo_sign_279 : decode prog_9_method_46_code 279 = .ok (.iconst 0, 1) := by decide +kernel
theorem dMo_sign_280 : decode prog_9_method_46_code 280 = .ok (.invokevirtual 163, 3) := by decide +kernel
theorem dMo_sign_283 : decode prog_9_method_46_code 283 = .ok (.ireturn, 1) := by decide +kernel
theorem dMo_sign_284 : decode prog_9_method_46_code 284 = .ok (.aload_n 0, 1) := by decide +kernel
theorem dMo_sign_285 : decode prog_9_method_46_code 285 = .ok (.iload_n 3, 1) := by decide +kernel
theorem dMo_sign_286 : decode prog_9_method_46_code 286 = .ok (.invokevirtual 178, 3) := by decide +kernel
theorem dMo_sign_289 : decode prog_9_method_46_code 289 = .ok (.ireturn, 1) := by decide +kernel
theorem dMo_sign_290 : decode prog_9_method_46_code 290 = .ok (.aload_n 0, 1) := by decide +kernel
theorem dMo_sign_291 : decode prog_9_method_46_code 291 = .ok (.aload_n 0, 1) := by decide +kernel
theorem dMo_sign_292 : decode prog_9_method_46_code 292 = .ok (.getfield 23, 3) := by decide +kernel
theorem dMo_sign_295 : decode prog_9_method_46_code 295 = .ok (.iload_n 3, 1) := by decide +kernel
theorem dMo_sign_296 : decode prog_9_method_46_code 296 = .ok (.iaload, 1) := by decide +kernel
theorem dMo_sign_297 : decode prog_9_method_46_code 297 = .ok (.invokevirtual 175, 3) := by decide +kernel
theorem dMo_sign_300 : decode prog_9_method_46_code 300 = .ok (.pop, 1) := by decide +kernel
theorem dMo_sign_301 : decode prog_9_method_46_code 301 = .ok (.aload_n 0, 1) := by decide +kernel
theorem dMo_sign_302 : decode prog_9_method_46_code 302 = .ok (.iconst 1, 1) := by decide +kernel
theorem dMo_sign_303 : decode prog_9_method_46_code 303 = .ok (.invokevirtual 163, 3) := by decide +kernel
theorem dMo_sign_306 : decode prog_9_method_46_code 306 = .ok (.ireturn, 1) := by decide +kernel
theorem dMo_sign_307 : decode prog_9_method_46_code 307 = .ok (.aload_n 0, 1) := by decide +kernel
theorem dMo_sign_308 : decode prog_9_method_46_code 308 = .ok (.aload_n 0, 1) := by decide +kernel
theorem dMo_sign_309 : decode prog_9_method_46_code 309 = .ok (.getfield 20, 3) := by decide +kernel
theorem dMo_sign_312 : decode prog_9_method_46_code 312 = .ok (.iload_n 3, 1) := by decide +kernel
theorem dMo_sign_313 : decode prog_9_method_46_code 313 = .ok (.iaload, 1) := by decide +kernel
theorem dMo_sign_314 : decode prog_9_method_46_code 314 = .ok (.invokevirtual 175, 3) := by decide +kernel
theorem dMo_sign_317 : decode prog_9_method_46_code 317 = .ok (.pop, 1) := by decide +kernel
theorem dMo_sign_318 : decode prog_9_method_46_code 318 = .ok (.aload_n 0, 1) := by decide +kernel
theorem dMo_sign_319 : decode prog_9_method_46_code 319 = .ok (.iconst 1, 1) := by decide +kernel
theorem dMo_sign_320 : decode prog_9_method_46_code 320 = .ok (.invokevirtual 163, 3) := by decide +kernel
theorem dMo_sign_323 : decode prog_9_method_46_code 323 = .ok (.ireturn, 1) := by decide +kernel
theorem dMo_sign_324 : decode prog_9_method_46_code 324 = .ok (.aload_n 0, 1) := by decide +kernel
theorem dMo_sign_325 : decode prog_9_method_46_code 325 = .ok (.iconst 0, 1) := by decide +kernel
theorem dMo_sign_326 : decode prog_9_method_46_code 326 = .ok (.putfield 120, 3) := by decide +kernel
theorem dMo_sign_329 : decode prog_9_method_46_code 329 = .ok (.iconst 0, 1) := by decide +kernel
theorem dMo_sign_330 : decode prog_9_method_46_code 330 = .ok (.ireturn, 1) := by decide +kernel
theorem dMo_sign_331 : decode prog_9_method_46_code 331 = .ok (.aload_n 0, 1) := by decide +kernel
theorem dMo_sign_332 : decode prog_9_method_46_code 332 = .ok (.iload_n 3, 1) := by decide +kernel
theorem dMo_sign_333 : decode prog_9_method_46_code 333 = .ok (.invokevirtual 181, 3) := by decide +kernel
theorem dMo_sign_336 : decode prog_9_method_46_code 336 = .ok (.ireturn, 1) := by decide +kernel
theorem dMo_sign_337 : decode prog_9_method_46_code 337 = .ok (.aload_n 0, 1) := by decide +kernel
theorem dMo_sign_338 : decode prog_9_method_46_code 338 = .ok (.iload_n 1, 1) := by decide +kernel
theorem dMo_sign_339 : decode prog_9_method_46_code 339 = .ok (.iload_n 3, 1) := by decide +kernel
theorem dMo_sign_340 : decode prog_9_method_46_code 340 = .ok (.invokevirtual 184, 3) := by decide +kernel
theorem dMo_sign_343 : decode prog_9_method_46_code 343 = .ok (.ireturn, 1) := by decide +kernel
abbrev qMo_sign (dC : Nat → ClassId) (dI : Nat → Nat → Nat) (dA : Nat → ClassId) (mo : Nat) (ft : Int) (lf : Int) (hg : Int) (kk : Int) (tx : Int) (pn : Int) (tk : Int) (fm : Int) (tO : Int) (tl : Int) (mI : Int → Int) (mT : Int → Int) (mS : Int → Int) (mC : Int → Int) (mL : Int → Int) (mB : Int → Int) (mF : Int → Int) (mU : Int → Int) (mX : Int → Int) (mP : Int → Int) (mK : Int → Int) (mD : Int → Int) (mZ : Int → Int) (c0 : Int) (rg : Int) (D : Int → Int) (lg : Int) (st : AS) (A : Nat → Prop) : Array Value → State → Outcome → State → Prop := QI (dC, dI) vwCl (tyA dA) (fun (r : Int) (v_ : (Int → Int) × (Int → Int) × (Int → Int) × (Int → Int) × (Int → Int) × (Int → Int) × (Int → Int) × (Int → Int) × (Int → Int) × (Int → Int) × Int × (Int → Int) × Int × Int × Int) => r = (cmdA st c0 rg D lg).1 ∧ MA v_.1 v_.2.1 v_.2.2.1 v_.2.2.2.1 v_.2.2.2.2.1 v_.2.2.2.2.2.2.2.2.2.2.2.2.2.1 v_.2.2.2.2.2.2.2.2.2.2.2.2.2.2 v_.2.2.2.2.2.2.2.1 v_.2.2.2.2.2.2.2.2.1 v_.2.2.2.2.2.2.2.2.2.1 v_.2.2.2.2.2.2.2.2.2.2.1 v_.2.2.2.2.2.2.2.2.2.2.2.1 v_.2.2.2.2.2.2.2.2.2.2.2.2.1 (cmdA st c0 rg D lg).2) (fun (v_ : (Int → Int) × (Int → Int) × (Int → Int) × (Int → Int) × (Int → Int) × (Int → Int) × (Int → Int) × (Int → Int) × (Int → Int) × (Int → Int) × Int × (Int → Int) × Int × Int × Int) => wMo dA mo ft lf v_.2.2.2.2.2.2.2.2.2.2.2.2.2.1 v_.2.2.2.2.2.2.2.2.2.2.2.2.2.2 v_.2.2.2.2.2.2.2.2.2.2.1 v_.2.2.2.2.2.2.2.2.2.2.2.2.1 tk fm tO tl mI v_.1 v_.2.1 v_.2.2.1 v_.2.2.2.1 v_.2.2.2.2.1 v_.2.2.2.2.2.2.2.1 v_.2.2.2.2.2.2.2.2.1 v_.2.2.2.2.2.2.2.2.2.1 v_.2.2.2.2.2.2.2.2.2.2.2.1 mK v_.2.2.2.2.2.1 v_.2.2.2.2.2.2.1 []) A
abbrev rmMo_sign : Room := { frames := 5, cells := 0, slots := 0, locals := 118 }
set_option maxRecDepth 100000 in
set_option maxHeartbeats 1000000 in
theorem cMo_sign (l : Launch) (dC : Nat → ClassId) (dI : Nat → Nat → Nat) (dA : Nat → ClassId) (mo : Nat) (ft : Int) (lf : Int) (hg : Int) (kk : Int) (tx : Int) (pn : Int) (tk : Int) (fm : Int) (tO : Int) (tl : Int) (mI : Int → Int) (mT : Int → Int) (mS : Int → Int) (mC : Int → Int) (mL : Int → Int) (mB : Int → Int) (mF : Int → Int) (mU : Int → Int) (mX : Int → Int) (mP : Int → Int) (mK : Int → Int) (mD : Int → Int) (mZ : Int → Int) (c0 : Int) (rg : Int) (D : Int → Int) (lg : Int) (st : AS) (hMA : MA mT mS mC mL mB hg kk mF mU mX tx mP pn st) (hc0 : 0 ≤ c0 ∧ c0 < 65536) (hnp : ¬ prs c0) (h91 : c0 ≠ 91 ∧ (c0 < 48 ∨ 57 < c0)) (sz : Nat) : Met l yMo_sign wsMo_sign rmMo_sign (PC (dC, dI) vwCl (tyA dA) XN [.ref mo, .int (iI c0)] (wMo dA mo ft lf hg kk tx pn tk fm tO tl mI mT mS mC mL mB mF mU mX mP mK mD mZ []) sz) (qMo_sign dC dI dA mo ft lf hg kk tx pn tk fm tO tl mI mT mS mC mL mB mF mU mX mP mK mD mZ c0 rg D lg st (va_A (wMo dA mo ft lf hg kk tx pn tk fm tO tl mI mT mS mC mL mB mF mU mX mP mK mD mZ []) sz)) 0 0 (va_A (wMo dA mo ft lf hg kk tx pn tk fm tO tl mI mT mS mC mL mB mF mU mX mP mK mD mZ []) sz) := by
  refine met_of (cc := prog_9_method_46_code) (maxL := 6) (ret := (some .int)) (Qc := qMo_sign dC dI dA mo ft lf hg kk tx pn tk fm tO tl mI mT mS mC mL mB mF mU mX mP mK mD mZ c0 rg D lg st) XN_ok (by decide) rfl (Nat.le_of_ble_eq_true rfl) ?_
  intro p e s m below meth c ls A hx hb hr hml hown hts hlocks hnm hK hP hD hA hX hS hl
  have hl : lv_has ls 6 [(0, .ref mo), (1, .int (iI c0))] := hl
  have hown : s.vm.findClass "MacroReckonerModel" = some m.cls := hown
  obtain ⟨H, hH⟩ : ∃ H : Heap, H = s.heap := ⟨_, rfl⟩
  obtain ⟨locs, hlo⟩ : ∃ L : List Loc, L = [] := ⟨_, rfl⟩
  have hP : va_P (dC, dI) vwCl (wMo dA mo ft lf hg kk tx pn tk fm tO tl mI mT mS mC mL mB mF mU mX mP mK mD mZ []) H := hH ▸ hP
  have hS : va_S A s.heap H locs := by rw [hH, hlo]; exact hS
  suffices hgo : W p l e rmMo_sign s m [.ref mo, .int (iI c0)].toArray below meth c H locs 0 0 (MQ below (qMo_sign dC dI dA mo ft lf hg kk tx pn tk fm tO tl mI mT mS mC mL mB mF mU mX mP mK mD mZ c0 rg D lg st A) [.ref mo, .int (iI c0)].toArray s 0 0 A) (F0 m 0 ls []) by rw [hH, hlo] at hgo; exact hgo
  clear hH hlo
  have hMA0 := hMA
  obtain ⟨hMH, hMX, hMG⟩ := hMA
  have hh := hMH.1
  have hk9 := hMH.2.1
  have hbo := MH_b hMH
  refine lv_iload_n hx hb dMo_sign_0 rfl (lv_at hl 1 rfl) ?_
  refine cv_i (va_runS (As := [.int (iI c0)]) (rest := []) ⟨hx, hb, hml, hown, hts⟩ (cMo_takes l dC dI dA c0 (by exact hc0) H.size) (cwS 1 hts (gdS wt5_2 wt5_3 wt1_8 wt5_4) rfl rfl rfl ⟨rfl, by decide, by decide, by decide +kernel⟩ ⟨by decide, by decide⟩) (preS hK hP hD hS hA XN_ok trivial [] rfl rfl) rfl rfl hl.1 rfl (lv_room (Nat.le_of_ble_eq_true rfl)) dMo_sign_1 ⟨Nat.zero_le _, Nat.zero_le _⟩) hP hD hS hA [] [0, 1, 2, 3, 4, 5, 6, 7, 8, 9, 10, 11, 12, 13] rfl (fun v_ => wMo dA mo ft lf hg kk tx pn tk fm tO tl mI mT mS mC mL mB mF mU mX mP mK mD mZ []) (fun _ => rfl) (wMo dA mo ft lf hg kk tx pn tk fm tO tl mI mT mS mC mL mB mF mU mX mP mK mD mZ []) rfl (fun _ => rfl) [mo, mo + 1, mo + 2, mo + 3, mo + 4, mo + 5, mo + 6, mo + 7, mo + 8, mo + 9, mo + 10, mo + 11, mo + 12, mo + 13] rfl (fun _ => rfl) (fun _ => rfl) (fun n9 u_ H locs hq1 hP hD hS => ?_)
  have hP : va_P (dC, dI) vwCl (wMo dA mo ft lf hg kk tx pn tk fm tO tl mI mT mS mC mL mB mF mU mX mP mK mD mZ []) H := hP
  have hD : va_D A (wMo dA mo ft lf hg kk tx pn tk fm tO tl mI mT mS mC mL mB mF mU mX mP mK mD mZ []) := hD
  have hq1 : tkR c0 n9 := hq1
  have hn0 : -1 ≤ n9 ∧ n9 ≤ 2 := by unfold tkR at hq1; omega
  refine lv_istore_n (lv' := [(2, .int (iI n9)), (0, .ref mo), (1, .int (iI c0))]) hx hb dMo_sign_4 rfl hl (by decide) rfl (fun ls hl => ?_)
  refine lv_iload_n hx hb dMo_sign_5 rfl (lv_at hl 0 rfl) ?_
  refine iv_if_ge (tgt := 11) hx hb dMo_sign_6 (by decide) ⟨by omega, by omega⟩ (fun hc6 => ?_) (fun hc6 => ?_)
  · have hne := need_e hq1 hnp (by omega)
    refine lv_aload_n hx hb dMo_sign_11 rfl (lv_at hl 1 rfl) ?_
    refine va_get (D := (dC, dI)) (ci := 7) (v := .int (iI hg)) (C := "MacroReckonerModel") (T := TMo) (N := 23) hx hb hts inMo hown hK hP 0 rfl rfl 8 (by decide) (hts _ wt4_66) (fun _ h9 => h9) rfl dMo_sign_12 ?_
    refine lv_iload_n hx hb dMo_sign_15 rfl (lv_at hl 0 rfl) ?_
    refine iv_icmp_ge (tgt := 22) hx hb dMo_sign_16 (by decide) ⟨by omega, by omega⟩ ⟨by omega, by omega⟩ (fun hc16 => ?_) (fun hc16 => ?_)
    · refine lv_bipush (v := iI 25) hx hb dMo_sign_22 (by decide) ?_
      refine lv_aload_n hx hb dMo_sign_24 rfl (lv_at hl 1 rfl) ?_
      refine va_get (D := (dC, dI)) (ci := 7) (v := .int (iI hg)) (C := "MacroReckonerModel") (T := TMo) (N := 23) hx hb hts inMo hown hK hP 0 rfl rfl 8 (by decide) (hts _ wt4_66) (fun _ h9 => h9) rfl dMo_sign_25 ?_
      refine iv_iadd hx hb dMo_sign_28 ?_
      refine lv_istore_n (lv' := [(3, .int (iI (25 + hg))), (2, .int (iI n9)), (0, .ref mo), (1, .int (iI c0))]) hx hb dMo_sign_29 rfl hl (by decide) rfl (fun ls hl => ?_)
      refine lv_iload_n hx hb dMo_sign_30 rfl (lv_at hl 1 rfl) ?_
      refine lv_iconst (v := iI 2) hx hb dMo_sign_31 rfl ?_
      have J60 : ∀ (rk : Int) (H : Heap) (locs : List Loc) (ls : Array Slot), ((rk = 1 ∧ nums c0) ∨ (rk = 0 ∧ ¬ nums c0)) → va_P (dC, dI) vwCl (wMo dA mo ft lf hg kk tx pn tk fm tO tl mI mT mS mC mL mB mF mU mX mP mK mD mZ []) H → va_D A (wMo dA mo ft lf hg kk tx pn tk fm tO tl mI mT mS mC mL mB mF mU mX mP mK mD mZ []) → va_S A s.heap H locs → lv_has ls 6 [(3, .int (iI (25 + hg))), (2, .int (iI n9)), (0, .ref mo), (1, .int (iI c0)), (4, .int (iI rk))] → W p l e rmMo_sign s m [.ref mo, .int (iI c0)].toArray below meth c H locs 0 0 (MQ below (qMo_sign dC dI dA mo ft lf hg kk tx pn tk fm tO tl mI mT mS mC mL mB mF mU mX mP mK mD mZ c0 rg D lg st A) [.ref mo, .int (iI c0)].toArray s 0 0 A) (F0 m 60 ls []) := by
        intro rk H locs ls hrk hP hD hS hl
        have hrb : rk = 0 ∨ rk = 1 := by rcases hrk with ⟨z, -⟩ | ⟨z, -⟩ <;> omega
        refine lv_iload hx hb dMo_sign_60 (lv_at hl 4 rfl) ?_
        refine iv_if_eq (tgt := 76) hx hb dMo_sign_62 (by decide) ⟨by omega, by omega⟩ (fun hc62 => ?_) (fun hc62 => ?_)
        · have hcp : cmdA st c0 rg D lg = perfA st c0 rg D lg := cmd_p (by omega) (fun z i x y => by first | exact absurd z (hrk.resolve_left (fun w => by omega)).2 | (have h := nt_e hMH (n := n9) (by omega) (by rcases hq67 with ⟨-, w⟩ | ⟨w, -⟩; exact w; omega) i (by omega) y; omega))
          refine lv_iload hx hb dMo_sign_76 (lv_at hl 4 rfl) ?_
          refine iv_if_eq (tgt := 116) hx hb dMo_sign_78 (by decide) ⟨by omega, by omega⟩ (fun hc78 => ?_) (fun hc78 => absurd hc78 (by omega))
          have hnn : (c0 = 107 ∧ rk = 1) ∨ (c0 ≠ 107 ∧ rk = 0) := by rcases hrk with ⟨z, w⟩ | ⟨z, w⟩; unfold nums at w; unfold tkR at hq1; omega; unfold nums at w; omega
          refine lv_iload_n hx hb dMo_sign_116 rfl (lv_at hl 3 rfl) ?_
          by_cases hs117_269 : c0 = 75
          · refine lv_lookup (off := 152) (tgt := 269) hx hb dMo_sign_117 (by decide) (by rw [iI_toInt ⟨by omega, by omega⟩]; show Op.lookupswitch.offset [(75, 152), (88, 190), (90, 173), (99, 130), (100, 117), (107, 167), (113, 207), (114, 91), (120, 214), (122, 137)] 220 c0 = 152; rw [hs117_269]; rfl) (by decide) ?_
            refine lv_aload_n hx hb dMo_sign_269 rfl (lv_at hl 2 rfl) ?_
            refine lv_aload_n hx hb dMo_sign_270 rfl (lv_at hl 2 rfl) ?_
            refine va_get (D := (dC, dI)) (ci := 7) (v := .int (iI kk)) (C := "MacroReckonerModel") (T := TMo) (N := 23) hx hb hts inMo hown hK hP 0 rfl rfl 9 (by decide) (hts _ wt4_67) (fun _ h9 => h9) rfl dMo_sign_271 ?_
            refine cv_i (va_runV (C := "MacroReckonerModel") (As := [.int (iI kk)]) (rest := []) ⟨hx, hb, hml, hown, hts⟩ (cMo_makeSmall l dC dI dA mo ft lf hg kk tx pn tk fm tO tl mI mT mS mC mL mB mF mU mX mP mK mD mZ kk (by omega) H.size) (cwV 1 hts (gdV wt5_69 wt5_71 ws5_14 wt1_8 wt5_72) rfl rfl rfl ⟨rfl, by decide, by decide, by decide +kernel⟩ ⟨by decide, by decide⟩) (preV (q := ("MacroReckonerModel", TMo, 23)) hK hP hD hS hA XN_ok trivial [0, 1, 2, 3, 4, 5, 6, 7, 8, 9, 10, 11, 12, 13] rfl rfl 0 rfl rfl) rfl rfl hl.1 rfl (lv_room (Nat.le_of_ble_eq_true rfl)) dMo_sign_274 ⟨Nat.zero_le _, Nat.zero_le _⟩) hP hD hS hA [0, 1, 2, 3, 4, 5, 6, 7, 8, 9, 10, 11, 12, 13] [] rfl (fun v_ => wMo dA mo ft lf hg kk tx pn tk fm tO tl mI v_.1 v_.2.1 v_.2.2.1 v_.2.2.2.1 v_.2.2.2.2.1 mF mU mX mP mK v_.2.2.2.2.2.1 v_.2.2.2.2.2.2 []) (fun _ => rfl) ([] : va_W) rfl (fun _ => rfl) [mo, mo + 1, mo + 2, mo + 3, mo + 4, mo + 5, mo + 6, mo + 7, mo + 8, mo + 9, mo + 10, mo + 11, mo + 12, mo + 13] rfl (fun _ => rfl) (fun _ => rfl) (fun r274 u_ H locs hq274 hP hD hS => ?_)
            obtain ⟨T1_274, S1_274, C1_274, L1_274, B1_274, D1_274, Z1_274⟩ := u_
            have hP : va_P (dC, dI) vwCl (wMo dA mo ft lf hg kk tx pn tk fm tO tl mI T1_274 S1_274 C1_274 L1_274 B1_274 mF mU mX mP mK D1_274 Z1_274 []) H := hP
            have hD : va_D A (wMo dA mo ft lf hg kk tx pn tk fm tO tl mI T1_274 S1_274 C1_274 L1_274 B1_274 mF mU mX mP mK D1_274 Z1_274 []) := hD
            have hq274 : r274 = 0 ∧ MT T1_274 S1_274 C1_274 L1_274 B1_274 46 (mkN kk 0) ∧ thO mT mS mC mL mB T1_274 S1_274 C1_274 L1_274 B1_274 46 := hq274
            refine lv_pop hx hb dMo_sign_277 rfl ?_
            refine lv_aload_n hx hb dMo_sign_278 rfl (lv_at hl 2 rfl) ?_
            refine lv_iconst (v := iI 0) hx hb dMo_sign_279 rfl ?_
            refine cv_i (va_runV (C := "MacroReckonerModel") (As := [.int (iI 0)]) (rest := []) ⟨hx, hb, hml, hown, hts⟩ (cMo_put l dC dI dA mo ft lf hg kk tx pn tk fm tO tl mI T1_274 S1_274 C1_274 L1_274 B1_274 mF mU mX mP mK D1_274 Z1_274 0 (by omega) (by exact (MT_b hq274.2.1).1) H.size) (cwV 1 hts (gdV wt4_199 wt4_201 ws4_4 wt1_8 wt4_202) rfl rfl rfl ⟨rfl, by decide, by decide, by decide +kernel⟩ ⟨by decide, by decide⟩) (preV (q := ("MacroReckonerModel", TMo, 23)) hK hP hD hS hA XN_ok trivial [0, 1, 2, 3, 4, 5, 6, 7, 8, 9, 10, 11, 12, 13] rfl rfl 0 rfl rfl) rfl rfl hl.1 rfl (lv_room (Nat.le_of_ble_eq_true rfl)) dMo_sign_280 ⟨Nat.zero_le _, Nat.zero_le _⟩) hP hD hS hA [0, 1, 2, 3, 4, 5, 6, 7, 8, 9, 10, 11, 12, 13] [] rfl (fun v_ => wMo dA mo ft lf v_.2.2.2.2.2 kk tx pn tk fm tO tl mI v_.1 v_.2.1 v_.2.2.1 v_.2.2.2.1 v_.2.2.2.2.1 mF mU mX mP mK D1_274 Z1_274 []) (fun _ => rfl) ([] : va_W) rfl (fun _ => rfl) [mo, mo + 1, mo + 2, mo + 3, mo + 4, mo + 5, mo + 6, mo + 7, mo + 8, mo + 9, mo + 10, mo + 11, mo + 12, mo + 13] rfl (fun _ => rfl) (fun _ => rfl) (fun r280 u_ H locs hq280 hP hD hS => ?_)
            obtain ⟨T1_280, S1_280, C1_280, L1_280, B1_280, hg1_280⟩ := u_
            have hP : va_P (dC, dI) vwCl (wMo dA mo ft lf hg1_280 kk tx pn tk fm tO tl mI T1_280 S1_280 C1_280 L1_280 B1_280 mF mU mX mP mK D1_274 Z1_274 []) H := hP
            have hD : va_D A (wMo dA mo ft lf hg1_280 kk tx pn tk fm tO tl mI T1_280 S1_280 C1_280 L1_280 B1_280 mF mU mX mP mK D1_274 Z1_274 []) := hD
            have hq280 : putR r280 hg 0 hg1_280 T1_274 S1_274 C1_274 L1_274 B1_274 T1_280 S1_280 C1_280 L1_280 B1_280 := hq280
            exact rt_i hx hb hr hlocks hK hS dMo_sign_283 (T1_280, S1_280, C1_280, L1_280, B1_280, D1_274, Z1_274, mF, mU, mX, tx, mP, pn, hg1_280, kk) hP hD (show r280 = (cmdA st c0 rg D lg).1 ∧ MA T1_280 S1_280 C1_280 L1_280 B1_280 hg1_280 kk mF mU mX tx mP pn (cmdA st c0 rg D lg).2 from by rw [hcp, perf_e.2.2.2.2.2.2.1 (by omega)]; have h5 := hq274.2.1; rw [hk9.1] at h5; have h6 := put_0 hq280 (MH_o hq274.2.2 hMH) h5; exact ⟨h6.1, h6.2, MX_push hMX, MG_push hMG⟩)
          by_cases hs117_307 : c0 = 88
          · refine lv_lookup (off := 190) (tgt := 307) hx hb dMo_sign_117 (by decide) (by rw [iI_toInt ⟨by omega, by omega⟩]; show Op.lookupswitch.offset [(75, 152), (88, 190), (90, 173), (99, 130), (100, 117), (107, 167), (113, 207), (114, 91), (120, 214), (122, 137)] 220 c0 = 190; rw [hs117_307]; rfl) (by decide) ?_
            have hn2 : n9 = 1 := by unfold tkR at hq1; omega
            have hTy := MH_1 hMH (by omega)
            have hlt := MT_b hTy
            refine lv_aload_n hx hb dMo_sign_307 rfl (lv_at hl 2 rfl) ?_
            refine lv_aload_n hx hb dMo_sign_308 rfl (lv_at hl 2 rfl) ?_
            refine va_get (D := (dC, dI)) (ci := 7) (v := .ref (mo + 4)) (C := "MacroReckonerModel") (T := TMo) (N := 23) hx hb hts inMo hown hK hP 0 rfl rfl 5 (by decide) (hts _ wt4_63) (fun _ h9 => h9) rfl dMo_sign_309 ?_
            refine lv_iload_n hx hb dMo_sign_312 rfl (lv_at hl 0 rfl) ?_
            refine iv_iald hx hb hK hP 4 0 rfl rfl (by decide) dMo_sign_313 (by omega) (by omega) ?_
            refine cv_i (va_runV (C := "MacroReckonerModel") (As := [.int (iI (mC (25 + hg)))]) (rest := []) ⟨hx, hb, hml, hown, hts⟩ (cMo_makeSmall l dC dI dA mo ft lf hg kk tx pn tk fm tO tl mI mT mS mC mL mB mF mU mX mP mK mD mZ (mC (25 + hg)) (by omega) H.size) (cwV 1 hts (gdV wt5_69 wt5_71 ws5_14 wt1_8 wt5_72) rfl rfl rfl ⟨rfl, by decide, by decide, by decide +kernel⟩ ⟨by decide, by decide⟩) (preV (q := ("MacroReckonerModel", TMo, 23)) hK hP hD hS hA XN_ok trivial [0, 1, 2, 3, 4, 5, 6, 7, 8, 9, 10, 11, 12, 13] rfl rfl 0 rfl rfl) rfl rfl hl.1 rfl (lv_room (Nat.le_of_ble_eq_true rfl)) dMo_sign_314 ⟨Nat.zero_le _, Nat.zero_le _⟩) hP hD hS hA [0, 1, 2, 3, 4, 5, 6, 7, 8, 9, 10, 11, 12, 13] [] rfl (fun v_ => wMo dA mo ft lf hg kk tx pn tk fm tO tl mI v_.1 v_.2.1 v_.2.2.1 v_.2.2.2.1 v_.2.2.2.2.1 mF mU mX mP mK v_.2.2.2.2.2.1 v_.2.2.2.2.2.2 []) (fun _ => rfl) ([] : va_W) rfl (fun _ => rfl) [mo, mo + 1, mo + 2, mo + 3, mo + 4, mo + 5, mo + 6, mo + 7, mo + 8, mo + 9, mo + 10, mo + 11, mo + 12, mo + 13] rfl (fun _ => rfl) (fun _ => rfl) (fun r314 u_ H locs hq314 hP hD hS => ?_)
            obtain ⟨T1_314, S1_314, C1_314, L1_314, B1_314, D1_314, Z1_314⟩ := u_
            have hP : va_P (dC, dI) vwCl (wMo dA mo ft lf hg kk tx pn tk fm tO tl mI T1_314 S1_314 C1_314 L1_314 B1_314 mF mU mX mP mK D1_314 Z1_314 []) H := hP
            have hD : va_D A (wMo dA mo ft lf hg kk tx pn tk fm tO tl mI T1_314 S1_314 C1_314 L1_314 B1_314 mF mU mX mP mK D1_314 Z1_314 []) := hD
            have hq314 : r314 = 0 ∧ MT T1_314 S1_314 C1_314 L1_314 B1_314 46 (mkN (mC (25 + hg)) 0) ∧ thO mT mS mC mL mB T1_314 S1_314 C1_314 L1_314 B1_314 46 := hq314
            refine lv_pop hx hb dMo_sign_317 rfl ?_
            refine lv_aload_n hx hb dMo_sign_318 rfl (lv_at hl 2 rfl) ?_
            refine lv_iconst (v := iI 1) hx hb dMo_sign_319 rfl ?_
            refine cv_i (va_runV (C := "MacroReckonerModel") (As := [.int (iI 1)]) (rest := []) ⟨hx, hb, hml, hown, hts⟩ (cMo_put l dC dI dA mo ft lf hg kk tx pn tk fm tO tl mI T1_314 S1_314 C1_314 L1_314 B1_314 mF mU mX mP mK D1_314 Z1_314 1 (by omega) (by exact (MT_b hq314.2.1).1) H.size) (cwV 1 hts (gdV wt4_199 wt4_201 ws4_4 wt1_8 wt4_202) rfl rfl rfl ⟨rfl, by decide, by decide, by decide +kernel⟩ ⟨by decide, by decide⟩) (preV (q := ("MacroReckonerModel", TMo, 23)) hK hP hD hS hA XN_ok trivial [0, 1, 2, 3, 4, 5, 6, 7, 8, 9, 10, 11, 12, 13] rfl rfl 0 rfl rfl) rfl rfl hl.1 rfl (lv_room (Nat.le_of_ble_eq_true rfl)) dMo_sign_320 ⟨Nat.zero_le _, Nat.zero_le _⟩) hP hD hS hA [0, 1, 2, 3, 4, 5, 6, 7, 8, 9, 10, 11, 12, 13] [] rfl (fun v_ => wMo dA mo ft lf v_.2.2.2.2.2 kk tx pn tk fm tO tl mI v_.1 v_.2.1 v_.2.2.1 v_.2.2.2.1 v_.2.2.2.2.1 mF mU mX mP mK D1_314 Z1_314 []) (fun _ => rfl) ([] : va_W) rfl (fun _ => rfl) [mo, mo + 1, mo + 2, mo + 3, mo + 4, mo + 5, mo + 6, mo + 7, mo + 8, mo + 9, mo + 10, mo + 11, mo + 12, mo + 13] rfl (fun _ => rfl) (fun _ => rfl) (fun r320 u_ H locs hq320 hP hD hS => ?_)
            obtain ⟨T1_320, S1_320, C1_320, L1_320, B1_320, hg1_320⟩ := u_
            have hP : va_P (dC, dI) vwCl (wMo dA mo ft lf hg1_320 kk tx pn tk fm tO tl mI T1_320 S1_320 C1_320 L1_320 B1_320 mF mU mX mP mK D1_314 Z1_314 []) H := hP
            have hD : va_D A (wMo dA mo ft lf hg1_320 kk tx pn tk fm tO tl mI T1_320 S1_320 C1_320 L1_320 B1_320 mF mU mX mP mK D1_314 Z1_314 []) := hD
            have hq320 : putR r320 hg 1 hg1_320 T1_314 S1_314 C1_314 L1_314 B1_314 T1_320 S1_320 C1_320 L1_320 B1_320 := hq320
            exact rt_i hx hb hr hlocks hK hS dMo_sign_323 (T1_320, S1_320, C1_320, L1_320, B1_320, D1_314, Z1_314, mF, mU, mX, tx, mP, pn, hg1_320, kk) hP hD (show r320 = (cmdA st c0 rg D lg).1 ∧ MA T1_320 S1_320 C1_320 L1_320 B1_320 hg1_320 kk mF mU mX tx mP pn (cmdA st c0 rg D lg).2 from by rw [hcp, perf_e.2.2.2.2.2.2.2.2.2.2.1 (by omega)]; have h5 := hq314.2.1; rw [hlt.2.2.1] at h5; have h6 := put_n hq320 (MH_o hq314.2.2 hMH) h5 (by omega); exact ⟨h6.1, MH_u h6.2, MX_c hMX rfl rfl rfl, MG_c hMG rfl rfl⟩)
          by_cases hs117_290 : c0 = 90
          · refine lv_lookup (off := 173) (tgt := 290) hx hb dMo_sign_117 (by decide) (by rw [iI_toInt ⟨by omega, by omega⟩]; show Op.lookupswitch.offset [(75, 152), (88, 190), (90, 173), (99, 130), (100, 117), (107, 167), (113, 207), (114, 91), (120, 214), (122, 137)] 220 c0 = 173; rw [hs117_290]; rfl) (by decide) ?_
            have hn2 : n9 = 1 := by unfold tkR at hq1; omega
            have hTy := MH_1 hMH (by omega)
            have hlt := MT_b hTy
            refine lv_aload_n hx hb dMo_sign_290 rfl (lv_at hl 2 rfl) ?_
            refine lv_aload_n hx hb dMo_sign_291 rfl (lv_at hl 2 rfl) ?_
            refine va_get (D := (dC, dI)) (ci := 7) (v := .ref (mo + 5)) (C := "MacroReckonerModel") (T := TMo) (N := 23) hx hb hts inMo hown hK hP 0 rfl rfl 6 (by decide) (hts _ wt4_64) (fun _ h9 => h9) rfl dMo_sign_292 ?_
            refine lv_iload_n hx hb dMo_sign_295 rfl (lv_at hl 0 rfl) ?_
            refine iv_iald hx hb hK hP 5 0 rfl rfl (by decide) dMo_sign_296 (by omega) (by omega) ?_
            refine cv_i (va_runV (C := "MacroReckonerModel") (As := [.int (iI (mL (25 + hg)))]) (rest := []) ⟨hx, hb, hml, hown, hts⟩ (cMo_makeSmall l dC dI dA mo ft lf hg kk tx pn tk fm tO tl mI mT mS mC mL mB mF mU mX mP mK mD mZ (mL (25 + hg)) (by omega) H.size) (cwV 1 hts (gdV wt5_69 wt5_71 ws5_14 wt1_8 wt5_72) rfl rfl rfl ⟨rfl, by decide, by decide, by decide +kernel⟩ ⟨by decide, by decide⟩) (preV (q := ("MacroReckonerModel", TMo, 23)) hK hP hD hS hA XN_ok trivial [0, 1, 2, 3, 4, 5, 6, 7, 8, 9, 10, 11, 12, 13] rfl rfl 0 rfl rfl) rfl rfl hl.1 rfl (lv_room (Nat.le_of_ble_eq_true rfl)) dMo_sign_297 ⟨Nat.zero_le _, Nat.zero_le _⟩) hP hD hS hA [0, 1, 2, 3, 4, 5, 6, 7, 8, 9, 10, 11, 12, 13] [] rfl (fun v_ => wMo dA mo ft lf hg kk tx pn tk fm tO tl mI v_.1 v_.2.1 v_.2.2.1 v_.2.2.2.1 v_.2.2.2.2.1 mF mU mX mP mK v_.2.2.2.2.2.1 v_.2.2.2.2.2.2 []) (fun _ => rfl) ([] : va_W) rfl (fun _ => rfl) [mo, mo + 1, mo + 2, mo + 3, mo + 4, mo + 5, mo + 6, mo + 7, mo + 8, mo + 9, mo + 10, mo + 11, mo + 12, mo + 13] rfl (fun _ => rfl) (fun _ => rfl) (fun r297 u_ H locs hq297 hP hD hS => ?_)
            obtain ⟨T1_297, S1_297, C1_297, L1_297, B1_297, D1_297, Z1_297⟩ := u_
            have hP : va_P (dC, dI) vwCl (wMo dA mo ft lf hg kk tx pn tk fm tO tl mI T1_297 S1_297 C1_297 L1_297 B1_297 mF mU mX mP mK D1_297 Z1_297 []) H := hP
            have hD : va_D A (wMo dA mo ft lf hg kk tx pn tk fm tO tl mI T1_297 S1_297 C1_297 L1_297 B1_297 mF mU mX mP mK D1_297 Z1_297 []) := hD
            have hq297 : r297 = 0 ∧ MT T1_297 S1_297 C1_297 L1_297 B1_297 46 (mkN (mL (25 + hg)) 0) ∧ thO mT mS mC mL mB T1_297 S1_297 C1_297 L1_297 B1_297 46 := hq297
            refine lv_pop hx hb dMo_sign_300 rfl ?_
            refine lv_aload_n hx hb dMo_sign_301 rfl (lv_at hl 2 rfl) ?_
            refine lv_iconst (v := iI 1) hx hb dMo_sign_302 rfl ?_
            refine cv_i (va_runV (C := "MacroReckonerModel") (As := [.int (iI 1)]) (rest := []) ⟨hx, hb, hml, hown, hts⟩ (cMo_put l dC dI dA mo ft lf hg kk tx pn tk fm tO tl mI T1_297 S1_297 C1_297 L1_297 B1_297 mF mU mX mP mK D1_297 Z1_297 1 (by omega) (by exact (MT_b hq297.2.1).1) H.size) (cwV 1 hts (gdV wt4_199 wt4_201 ws4_4 wt1_8 wt4_202) rfl rfl rfl ⟨rfl, by decide, by decide, by decide +kernel⟩ ⟨by decide, by decide⟩) (preV (q := ("MacroReckonerModel", TMo, 23)) hK hP hD hS hA XN_ok trivial [0, 1, 2, 3, 4, 5, 6, 7, 8, 9, 10, 11, 12, 13] rfl rfl 0 rfl rfl) rfl rfl hl.1 rfl (lv_room (Nat.le_of_ble_eq_true rfl)) dMo_sign_303 ⟨Nat.zero_le _, Nat.zero_le _⟩) hP hD hS hA [0, 1, 2, 3, 4, 5, 6, 7, 8, 9, 10, 11, 12, 13] [] rfl (fun v_ => wMo dA mo ft lf v_.2.2.2.2.2 kk tx pn tk fm tO tl mI v_.1 v_.2.1 v_.2.2.1 v_.2.2.2.1 v_.2.2.2.2.1 mF mU mX mP mK D1_297 Z1_297 []) (fun _ => rfl) ([] : va_W) rfl (fun _ => rfl) [mo, mo + 1, mo + 2, mo + 3, mo + 4, mo + 5, mo + 6, mo + 7, mo + 8, mo + 9, mo + 10, mo + 11, mo + 12, mo + 13] rfl (fun _ => rfl) (fun _ => rfl) (fun r303 u_ H locs hq303 hP hD hS => ?_)
            obtain ⟨T1_303, S1_303, C1_303, L1_303, B1_303, hg1_303⟩ := u_
            have hP : va_P (dC, dI) vwCl (wMo dA mo ft lf hg1_303 kk tx pn tk fm tO tl mI T1_303 S1_303 C1_303 L1_303 B1_303 mF mU mX mP mK D1_297 Z1_297 []) H := hP
            have hD : va_D A (wMo dA mo ft lf hg1_303 kk tx pn tk fm tO tl mI T1_303 S1_303 C1_303 L1_303 B1_303 mF mU mX mP mK D1_297 Z1_297 []) := hD
            have hq303 : putR r303 hg 1 hg1_303 T1_297 S1_297 C1_297 L1_297 B1_297 T1_303 S1_303 C1_303 L1_303 B1_303 := hq303
            exact rt_i hx hb hr hlocks hK hS dMo_sign_306 (T1_303, S1_303, C1_303, L1_303, B1_303, D1_297, Z1_297, mF, mU, mX, tx, mP, pn, hg1_303, kk) hP hD (show r303 = (cmdA st c0 rg D lg).1 ∧ MA T1_303 S1_303 C1_303 L1_303 B1_303 hg1_303 kk mF mU mX tx mP pn (cmdA st c0 rg D lg).2 from by rw [hcp, perf_e.2.2.2.2.2.2.2.2.2.1 (by omega)]; have h5 := hq297.2.1; rw [← thZ_e hTy] at h5; have h6 := put_n hq303 (MH_o hq297.2.2 hMH) h5 (by omega); exact ⟨h6.1, MH_u h6.2, MX_c hMX rfl rfl rfl, MG_c hMG rfl rfl⟩)
          by_cases hs117_247 : c0 = 99
          · refine lv_lookup (off := 130) (tgt := 247) hx hb dMo_sign_117 (by decide) (by rw [iI_toInt ⟨by omega, by omega⟩]; show Op.lookupswitch.offset [(75, 152), (88, 190), (90, 173), (99, 130), (100, 117), (107, 167), (113, 207), (114, 91), (120, 214), (122, 137)] 220 c0 = 130; rw [hs117_247]; rfl) (by decide) ?_
            refine lv_aload_n hx hb dMo_sign_247 rfl (lv_at hl 2 rfl) ?_
            refine lv_iconst (v := iI 0) hx hb dMo_sign_248 rfl ?_
            refine va_put (D := (dC, dI)) (ci := 7) (v := .int (iI 0)) (ty := .int) (C := "MacroReckonerModel") (T := TMo) (N := 23) hx hb hts inMo tyMo tyMo_ok nmMo hown hK hP hD hS 0 rfl rfl 8 (by decide) (hts _ wt4_66) (fun _ h9 => h9) rfl (by decide +kernel) rfl rfl (Nat.le_of_ble_eq_true rfl) dMo_sign_249 (fun H locs hP hD hS => ?_)
            have hP : va_P (dC, dI) vwCl (wMo dA mo ft lf 0 kk tx pn tk fm tO tl mI mT mS mC mL mB mF mU mX mP mK mD mZ []) H := hP
            have hD : va_D A (wMo dA mo ft lf 0 kk tx pn tk fm tO tl mI mT mS mC mL mB mF mU mX mP mK mD mZ []) := hD
            refine lv_iconst (v := iI 0) hx hb dMo_sign_252 rfl ?_
            exact rt_i hx hb hr hlocks hK hS dMo_sign_253 (mT, mS, mC, mL, mB, mD, mZ, mF, mU, mX, tx, mP, pn, 0, kk) hP hD (show 0 = (cmdA st c0 rg D lg).1 ∧ MA mT mS mC mL mB 0 kk mF mU mX tx mP pn (cmdA st c0 rg D lg).2 from by rw [hcp, perf_e.2.2.2.2.1 (by omega)]; exact ⟨rfl, MA_h hMA0 (by omega)⟩)
          by_cases hs117_234 : c0 = 100
          · refine lv_lookup (off := 117) (tgt := 234) hx hb dMo_sign_117 (by decide) (by rw [iI_toInt ⟨by omega, by omega⟩]; show Op.lookupswitch.offset [(75, 152), (88, 190), (90, 173), (99, 130), (100, 117), (107, 167), (113, 207), (114, 91), (120, 214), (122, 137)] 220 c0 = 117; rw [hs117_234]; rfl) (by decide) ?_
            have hn2 : n9 = 1 := by unfold tkR at hq1; omega
            have hTy := MH_1 hMH (by omega)
            refine lv_aload_n hx hb dMo_sign_234 rfl (lv_at hl 2 rfl) ?_
            refine lv_bipush (v := iI 46) hx hb dMo_sign_235 (by decide) ?_
            refine lv_iload_n hx hb dMo_sign_237 rfl (lv_at hl 0 rfl) ?_
            refine cv_v (va_runV (C := "MacroReckonerModel") (As := [.int (iI 46), .int (iI (25 + hg))]) (rest := []) ⟨hx, hb, hml, hown, hts⟩ (cMo_move l dC dI dA mo ft lf hg kk tx pn tk fm tO tl mI mT mS mC mL mB mF mU mX mP mK mD mZ 46 (25 + hg) (by omega) (by exact hbo _ (by omega) (by omega)) H.size) (cwV 2 hts (gdV wt4_203 wt4_205 ws4_5 wt1_8 wt4_206) rfl rfl rfl ⟨rfl, by decide, by decide, by decide +kernel⟩ ⟨by decide, by decide⟩) (preV (q := ("MacroReckonerModel", TMo, 23)) hK hP hD hS hA XN_ok trivial [0, 1, 2, 3, 4, 5, 6, 7, 8, 9, 10, 11, 12, 13] rfl rfl 0 rfl rfl) rfl rfl hl.1 rfl (lv_room (Nat.le_of_ble_eq_true rfl)) dMo_sign_238 ⟨Nat.zero_le _, Nat.zero_le _⟩) hP hD hS hA [0, 1, 2, 3, 4, 5, 6, 7, 8, 9, 10, 11, 12, 13] [] rfl (fun v_ => wMo dA mo ft lf hg kk tx pn tk fm tO tl mI v_.1 v_.2.1 v_.2.2.1 v_.2.2.2.1 v_.2.2.2.2 mF mU mX mP mK mD mZ []) (fun _ => rfl) ([] : va_W) rfl (fun _ => rfl) [mo, mo + 1, mo + 2, mo + 3, mo + 4, mo + 5, mo + 6, mo + 7, mo + 8, mo + 9, mo + 10, mo + 11, mo + 12, mo + 13] rfl (fun _ => rfl) (fun _ => rfl) (fun u_ H locs hq238 hP hD hS => ?_)
            obtain ⟨T1_238, S1_238, C1_238, L1_238, B1_238⟩ := u_
            have hP : va_P (dC, dI) vwCl (wMo dA mo ft lf hg kk tx pn tk fm tO tl mI T1_238 S1_238 C1_238 L1_238 B1_238 mF mU mX mP mK mD mZ []) H := hP
            have hD : va_D A (wMo dA mo ft lf hg kk tx pn tk fm tO tl mI T1_238 S1_238 C1_238 L1_238 B1_238 mF mU mX mP mK mD mZ []) := hD
            have hq238 : (∀ a, MT mT mS mC mL mB (25 + hg) a → MT T1_238 S1_238 C1_238 L1_238 B1_238 46 a) ∧ thO mT mS mC mL mB T1_238 S1_238 C1_238 L1_238 B1_238 46 := hq238
            refine lv_aload_n hx hb dMo_sign_241 rfl (lv_at hl 2 rfl) ?_
            refine lv_iconst (v := iI 0) hx hb dMo_sign_242 rfl ?_
            refine cv_i (va_runV (C := "MacroReckonerModel") (As := [.int (iI 0)]) (rest := []) ⟨hx, hb, hml, hown, hts⟩ (cMo_put l dC dI dA mo ft lf hg kk tx pn tk fm tO tl mI T1_238 S1_238 C1_238 L1_238 B1_238 mF mU mX mP mK mD mZ 0 (by omega) (by exact (MT_b (hq238.1 _ hTy)).1) H.size) (cwV 1 hts (gdV wt4_199 wt4_201 ws4_4 wt1_8 wt4_202) rfl rfl rfl ⟨rfl, by decide, by decide, by decide +kernel⟩ ⟨by decide, by decide⟩) (preV (q := ("MacroReckonerModel", TMo, 23)) hK hP hD hS hA XN_ok trivial [0, 1, 2, 3, 4, 5, 6, 7, 8, 9, 10, 11, 12, 13] rfl rfl 0 rfl rfl) rfl rfl hl.1 rfl (lv_room (Nat.le_of_ble_eq_true rfl)) dMo_sign_243 ⟨Nat.zero_le _, Nat.zero_le _⟩) hP hD hS hA [0, 1, 2, 3, 4, 5, 6, 7, 8, 9, 10, 11, 12, 13] [] rfl (fun v_ => wMo dA mo ft lf v_.2.2.2.2.2 kk tx pn tk fm tO tl mI v_.1 v_.2.1 v_.2.2.1 v_.2.2.2.1 v_.2.2.2.2.1 mF mU mX mP mK mD mZ []) (fun _ => rfl) ([] : va_W) rfl (fun _ => rfl) [mo, mo + 1, mo + 2, mo + 3, mo + 4, mo + 5, mo + 6, mo + 7, mo + 8, mo + 9, mo + 10, mo + 11, mo + 12, mo + 13] rfl (fun _ => rfl) (fun _ => rfl) (fun r243 u_ H locs hq243 hP hD hS => ?_)
            obtain ⟨T1_243, S1_243, C1_243, L1_243, B1_243, hg1_243⟩ := u_
            have hP : va_P (dC, dI) vwCl (wMo dA mo ft lf hg1_243 kk tx pn tk fm tO tl mI T1_243 S1_243 C1_243 L1_243 B1_243 mF mU mX mP mK mD mZ []) H := hP
            have hD : va_D A (wMo dA mo ft lf hg1_243 kk tx pn tk fm tO tl mI T1_243 S1_243 C1_243 L1_243 B1_243 mF mU mX mP mK mD mZ []) := hD
            have hq243 : putR r243 hg 0 hg1_243 T1_238 S1_238 C1_238 L1_238 B1_238 T1_243 S1_243 C1_243 L1_243 B1_243 := hq243
            exact rt_i hx hb hr hlocks hK hS dMo_sign_246 (T1_243, S1_243, C1_243, L1_243, B1_243, mD, mZ, mF, mU, mX, tx, mP, pn, hg1_243, kk) hP hD (show r243 = (cmdA st c0 rg D lg).1 ∧ MA T1_243 S1_243 C1_243 L1_243 B1_243 hg1_243 kk mF mU mX tx mP pn (cmdA st c0 rg D lg).2 from by rw [hcp, perf_e.2.2.1 (by omega)]; have h6 := put_0 hq243 (MH_o hq238.2 hMH) (hq238.1 _ hTy); exact ⟨h6.1, h6.2, MX_push hMX, MG_push hMG⟩)
          by_cases hs117_284 : c0 = 107
          · refine lv_lookup (off := 167) (tgt := 284) hx hb dMo_sign_117 (by decide) (by rw [iI_toInt ⟨by omega, by omega⟩]; show Op.lookupswitch.offset [(75, 152), (88, 190), (90, 173), (99, 130), (100, 117), (107, 167), (113, 207), (114, 91), (120, 214), (122, 137)] 220 c0 = 167; rw [hs117_284]; rfl) (by decide) ?_
            have hn2 : n9 = 1 := by unfold tkR at hq1; omega
            have hTy := MH_1 hMH (by omega)
            refine lv_aload_n hx hb dMo_sign_284 rfl (lv_at hl 2 rfl) ?_
            refine lv_iload_n hx hb dMo_sign_285 rfl (lv_at hl 0 rfl) ?_
            refine cv_i (va_runV (C := "MacroReckonerModel") (As := [.int (iI (25 + hg))]) (rest := []) ⟨hx, hb, hml, hown, hts⟩ (cMo_setScale l dC dI dA mo ft lf hg kk tx pn tk fm tO tl mI mT mS mC mL mB mF mU mX mP mK mD mZ (25 + hg) ((st.stk (st.h - 1))) (by omega) (by exact hTy) (by first | exact nt_e hMH (n := n9) (by omega) (by rcases hq67 with ⟨-, w⟩ | ⟨w, -⟩; exact w; omega) _ (by omega) (by omega) | (exfalso; omega)) (by omega) H.size) (cwV 1 hts (gdV wt5_73 wt5_75 ws5_15 wt1_8 wt5_76) rfl rfl rfl ⟨rfl, by decide, by decide, by decide +kernel⟩ ⟨by decide, by decide⟩) (preV (q := ("MacroReckonerModel", TMo, 23)) hK hP hD hS hA XN_ok trivial [0, 1, 2, 3, 4, 5, 6, 7, 8, 9, 10, 11, 12, 13] rfl rfl 0 rfl rfl) rfl rfl hl.1 rfl (lv_room (Nat.le_of_ble_eq_true rfl)) dMo_sign_286 ⟨Nat.zero_le _, Nat.zero_le _⟩) hP hD hS hA [0, 1, 2, 3, 4, 5, 6, 7, 8, 9, 10, 11, 12, 13] [] rfl (fun v_ => wMo dA mo ft lf v_.2 v_.1 tx pn tk fm tO tl mI mT mS mC mL mB mF mU mX mP mK mD mZ []) (fun _ => rfl) ([] : va_W) rfl (fun _ => rfl) [mo, mo + 1, mo + 2, mo + 3, mo + 4, mo + 5, mo + 6, mo + 7, mo + 8, mo + 9, mo + 10, mo + 11, mo + 12, mo + 13] rfl (fun _ => rfl) (fun _ => rfl) (fun r286 u_ H locs hq286 hP hD hS => ?_)
            obtain ⟨kk1_286, hg1_286⟩ := u_
            have hP : va_P (dC, dI) vwCl (wMo dA mo ft lf hg1_286 kk1_286 tx pn tk fm tO tl mI mT mS mC mL mB mF mU mX mP mK mD mZ []) H := hP
            have hD : va_D A (wMo dA mo ft lf hg1_286 kk1_286 tx pn tk fm tO tl mI mT mS mC mL mB mF mU mX mP mK mD mZ []) := hD
            have hq286 : (r286 = -4 ∧ kk1_286 = kk ∧ hg1_286 = hg ∧ (((st.stk (st.h - 1))).sc ≠ 0 ∨ ((st.stk (st.h - 1))).v < 0 ∨ 40 < ((st.stk (st.h - 1))).v)) ∨ (r286 = 0 ∧ kk1_286 = ((st.stk (st.h - 1))).v ∧ hg1_286 = hg - 1 ∧ ¬ (((st.stk (st.h - 1))).sc ≠ 0 ∨ ((st.stk (st.h - 1))).v < 0 ∨ 40 < ((st.stk (st.h - 1))).v)) := hq286
            exact rt_i hx hb hr hlocks hK hS dMo_sign_289 (mT, mS, mC, mL, mB, mD, mZ, mF, mU, mX, tx, mP, pn, hg1_286, kk1_286) hP hD (show r286 = (cmdA st c0 rg D lg).1 ∧ MA mT mS mC mL mB hg1_286 kk1_286 mF mU mX tx mP pn (cmdA st c0 rg D lg).2 from by rw [hcp, perf_e.2.2.2.2.2.2.2.1 (by omega)]; exact sca_e hMA0 (by omega) hq286)
          by_cases hs117_324 : c0 = 113
          · refine lv_lookup (off := 207) (tgt := 324) hx hb dMo_sign_117 (by decide) (by rw [iI_toInt ⟨by omega, by omega⟩]; show Op.lookupswitch.offset [(75, 152), (88, 190), (90, 173), (99, 130), (100, 117), (107, 167), (113, 207), (114, 91), (120, 214), (122, 137)] 220 c0 = 207; rw [hs117_324]; rfl) (by decide) ?_
            refine lv_aload_n hx hb dMo_sign_324 rfl (lv_at hl 2 rfl) ?_
            refine lv_iconst (v := iI 0) hx hb dMo_sign_325 rfl ?_
            refine va_put (D := (dC, dI)) (ci := 7) (v := .int (iI 0)) (ty := .int) (C := "MacroReckonerModel") (T := TMo) (N := 23) hx hb hts inMo tyMo tyMo_ok nmMo hown hK hP hD hS 0 rfl rfl 10 (by decide) (hts _ wt4_68) (fun _ h9 => h9) rfl (by decide +kernel) rfl rfl (Nat.le_of_ble_eq_true rfl) dMo_sign_326 (fun H locs hP hD hS => ?_)
            have hP : va_P (dC, dI) vwCl (wMo dA mo ft lf hg kk 0 pn tk fm tO tl mI mT mS mC mL mB mF mU mX mP mK mD mZ []) H := hP
            have hD : va_D A (wMo dA mo ft lf hg kk 0 pn tk fm tO tl mI mT mS mC mL mB mF mU mX mP mK mD mZ []) := hD
            refine lv_iconst (v := iI 0) hx hb dMo_sign_329 rfl ?_
            exact rt_i hx hb hr hlocks hK hS dMo_sign_330 (mT, mS, mC, mL, mB, mD, mZ, mF, mU, mX, 0, mP, pn, hg, kk) hP hD (show 0 = (cmdA st c0 rg D lg).1 ∧ MA mT mS mC mL mB hg kk mF mU mX 0 mP pn (cmdA st c0 rg D lg).2 from by rw [hcp, perf_e.2.2.2.2.2.2.2.2.2.2.2.2 (by omega)]; exact ⟨rfl, MH_c hMH rfl rfl rfl rfl, MX_0 rfl, MG_c hMG rfl rfl⟩)
          by_cases hs117_208 : c0 = 114
          · refine lv_lookup (off := 91) (tgt := 208) hx hb dMo_sign_117 (by decide) (by rw [iI_toInt ⟨by omega, by omega⟩]; show Op.lookupswitch.offset [(75, 152), (88, 190), (90, 173), (99, 130), (100, 117), (107, 167), (113, 207), (114, 91), (120, 214), (122, 137)] 220 c0 = 91; rw [hs117_208]; rfl) (by decide) ?_
            have hn2 : n9 = 2 := by unfold tkR at hq1; omega
            refine lv_aload_n hx hb dMo_sign_208 rfl (lv_at hl 2 rfl) ?_
            refine lv_bipush (v := iI 46) hx hb dMo_sign_209 (by decide) ?_
            refine lv_iload_n hx hb dMo_sign_211 rfl (lv_at hl 0 rfl) ?_
            refine cv_v (va_runV (C := "MacroReckonerModel") (As := [.int (iI 46), .int (iI (25 + hg))]) (rest := []) ⟨hx, hb, hml, hown, hts⟩ (cMo_move l dC dI dA mo ft lf hg kk tx pn tk fm tO tl mI mT mS mC mL mB mF mU mX mP mK mD mZ 46 (25 + hg) (by omega) (by exact hbo _ (by omega) (by omega)) H.size) (cwV 2 hts (gdV wt4_203 wt4_205 ws4_5 wt1_8 wt4_206) rfl rfl rfl ⟨rfl, by decide, by decide, by decide +kernel⟩ ⟨by decide, by decide⟩) (preV (q := ("MacroReckonerModel", TMo, 23)) hK hP hD hS hA XN_ok trivial [0, 1, 2, 3, 4, 5, 6, 7, 8, 9, 10, 11, 12, 13] rfl rfl 0 rfl rfl) rfl rfl hl.1 rfl (lv_room (Nat.le_of_ble_eq_true rfl)) dMo_sign_212 ⟨Nat.zero_le _, Nat.zero_le _⟩) hP hD hS hA [0, 1, 2, 3, 4, 5, 6, 7, 8, 9, 10, 11, 12, 13] [] rfl (fun v_ => wMo dA mo ft lf hg kk tx pn tk fm tO tl mI v_.1 v_.2.1 v_.2.2.1 v_.2.2.2.1 v_.2.2.2.2 mF mU mX mP mK mD mZ []) (fun _ => rfl) ([] : va_W) rfl (fun _ => rfl) [mo, mo + 1, mo + 2, mo + 3, mo + 4, mo + 5, mo + 6, mo + 7, mo + 8, mo + 9, mo + 10, mo + 11, mo + 12, mo + 13] rfl (fun _ => rfl) (fun _ => rfl) (fun u_ H locs hq212 hP hD hS => ?_)
            obtain ⟨T1_212, S1_212, C1_212, L1_212, B1_212⟩ := u_
            have hP : va_P (dC, dI) vwCl (wMo dA mo ft lf hg kk tx pn tk fm tO tl mI T1_212 S1_212 C1_212 L1_212 B1_212 mF mU mX mP mK mD mZ []) H := hP
            have hD : va_D A (wMo dA mo ft lf hg kk tx pn tk fm tO tl mI T1_212 S1_212 C1_212 L1_212 B1_212 mF mU mX mP mK mD mZ []) := hD
            have hq212 : (∀ a, MT mT mS mC mL mB (25 + hg) a → MT T1_212 S1_212 C1_212 L1_212 B1_212 46 a) ∧ thO mT mS mC mL mB T1_212 S1_212 C1_212 L1_212 B1_212 46 := hq212
            refine lv_aload_n hx hb dMo_sign_215 rfl (lv_at hl 2 rfl) ?_
            refine lv_iload_n hx hb dMo_sign_216 rfl (lv_at hl 0 rfl) ?_
            refine lv_iload_n hx hb dMo_sign_217 rfl (lv_at hl 0 rfl) ?_
            refine lv_iconst (v := iI 1) hx hb dMo_sign_218 rfl ?_
            refine iv_isub hx hb dMo_sign_219 ?_
            refine cv_v (va_runV (C := "MacroReckonerModel") (As := [.int (iI (25 + hg)), .int (iI ((25 + hg) - 1))]) (rest := []) ⟨hx, hb, hml, hown, hts⟩ (cMo_move l dC dI dA mo ft lf hg kk tx pn tk fm tO tl mI T1_212 S1_212 C1_212 L1_212 B1_212 mF mU mX mP mK mD mZ (25 + hg) ((25 + hg) - 1) (by omega) (by rw [(hq212.2.1 _ (show (25 : Int) + hg - 1 ≠ 46 by omega)).1]; exact hbo _ (by omega) (by omega)) H.size) (cwV 2 hts (gdV wt4_203 wt4_205 ws4_5 wt1_8 wt4_206) rfl rfl rfl ⟨rfl, by decide, by decide, by decide +kernel⟩ ⟨by decide, by decide⟩) (preV (q := ("MacroReckonerModel", TMo, 23)) hK hP hD hS hA XN_ok trivial [0, 1, 2, 3, 4, 5, 6, 7, 8, 9, 10, 11, 12, 13] rfl rfl 0 rfl rfl) rfl rfl hl.1 rfl (lv_room (Nat.le_of_ble_eq_true rfl)) dMo_sign_220 ⟨Nat.zero_le _, Nat.zero_le _⟩) hP hD hS hA [0, 1, 2, 3, 4, 5, 6, 7, 8, 9, 10, 11, 12, 13] [] rfl (fun v_ => wMo dA mo ft lf hg kk tx pn tk fm tO tl mI v_.1 v_.2.1 v_.2.2.1 v_.2.2.2.1 v_.2.2.2.2 mF mU mX mP mK mD mZ []) (fun _ => rfl) ([] : va_W) rfl (fun _ => rfl) [mo, mo + 1, mo + 2, mo + 3, mo + 4, mo + 5, mo + 6, mo + 7, mo + 8, mo + 9, mo + 10, mo + 11, mo + 12, mo + 13] rfl (fun _ => rfl) (fun _ => rfl) (fun u_ H locs hq220 hP hD hS => ?_)
            obtain ⟨T1_220, S1_220, C1_220, L1_220, B1_220⟩ := u_
            have hP : va_P (dC, dI) vwCl (wMo dA mo ft lf hg kk tx pn tk fm tO tl mI T1_220 S1_220 C1_220 L1_220 B1_220 mF mU mX mP mK mD mZ []) H := hP
            have hD : va_D A (wMo dA mo ft lf hg kk tx pn tk fm tO tl mI T1_220 S1_220 C1_220 L1_220 B1_220 mF mU mX mP mK mD mZ []) := hD
            have hq220 : (∀ a, MT T1_212 S1_212 C1_212 L1_212 B1_212 ((25 + hg) - 1) a → MT T1_220 S1_220 C1_220 L1_220 B1_220 (25 + hg) a) ∧ thO T1_212 S1_212 C1_212 L1_212 B1_212 T1_220 S1_220 C1_220 L1_220 B1_220 (25 + hg) := hq220
            refine lv_aload_n hx hb dMo_sign_223 rfl (lv_at hl 2 rfl) ?_
            refine lv_iload_n hx hb dMo_sign_224 rfl (lv_at hl 0 rfl) ?_
            refine lv_iconst (v := iI 1) hx hb dMo_sign_225 rfl ?_
            refine iv_isub hx hb dMo_sign_226 ?_
            refine lv_bipush (v := iI 46) hx hb dMo_sign_227 (by decide) ?_
            refine cv_v (va_runV (C := "MacroReckonerModel") (As := [.int (iI ((25 + hg) - 1)), .int (iI 46)]) (rest := []) ⟨hx, hb, hml, hown, hts⟩ (cMo_move l dC dI dA mo ft lf hg kk tx pn tk fm tO tl mI T1_220 S1_220 C1_220 L1_220 B1_220 mF mU mX mP mK mD mZ ((25 + hg) - 1) 46 (by omega) (by exact (MT_b (MT_o hq220.2 (by omega) (hq212.1 _ (MH_1 hMH (by omega))))).1) H.size) (cwV 2 hts (gdV wt4_203 wt4_205 ws4_5 wt1_8 wt4_206) rfl rfl rfl ⟨rfl, by decide, by decide, by decide +kernel⟩ ⟨by decide, by decide⟩) (preV (q := ("MacroReckonerModel", TMo, 23)) hK hP hD hS hA XN_ok trivial [0, 1, 2, 3, 4, 5, 6, 7, 8, 9, 10, 11, 12, 13] rfl rfl 0 rfl rfl) rfl rfl hl.1 rfl (lv_room (Nat.le_of_ble_eq_true rfl)) dMo_sign_229 ⟨Nat.zero_le _, Nat.zero_le _⟩) hP hD hS hA [0, 1, 2, 3, 4, 5, 6, 7, 8, 9, 10, 11, 12, 13] [] rfl (fun v_ => wMo dA mo ft lf hg kk tx pn tk fm tO tl mI v_.1 v_.2.1 v_.2.2.1 v_.2.2.2.1 v_.2.2.2.2 mF mU mX mP mK mD mZ []) (fun _ => rfl) ([] : va_W) rfl (fun _ => rfl) [mo, mo + 1, mo + 2, mo + 3, mo + 4, mo + 5, mo + 6, mo + 7, mo + 8, mo + 9, mo + 10, mo + 11, mo + 12, mo + 13] rfl (fun _ => rfl) (fun _ => rfl) (fun u_ H locs hq229 hP hD hS => ?_)
            obtain ⟨T1_229, S1_229, C1_229, L1_229, B1_229⟩ := u_
            have hP : va_P (dC, dI) vwCl (wMo dA mo ft lf hg kk tx pn tk fm tO tl mI T1_229 S1_229 C1_229 L1_229 B1_229 mF mU mX mP mK mD mZ []) H := hP
            have hD : va_D A (wMo dA mo ft lf hg kk tx pn tk fm tO tl mI T1_229 S1_229 C1_229 L1_229 B1_229 mF mU mX mP mK mD mZ []) := hD
            have hq229 : (∀ a, MT T1_220 S1_220 C1_220 L1_220 B1_220 46 a → MT T1_229 S1_229 C1_229 L1_229 B1_229 ((25 + hg) - 1) a) ∧ thO T1_220 S1_220 C1_220 L1_220 B1_220 T1_229 S1_229 C1_229 L1_229 B1_229 ((25 + hg) - 1) := hq229
            refine lv_iconst (v := iI 0) hx hb dMo_sign_232 rfl ?_
            exact rt_i hx hb hr hlocks hK hS dMo_sign_233 (T1_229, S1_229, C1_229, L1_229, B1_229, mD, mZ, mF, mU, mX, tx, mP, pn, hg, kk) hP hD (show 0 = (cmdA st c0 rg D lg).1 ∧ MA T1_229 S1_229 C1_229 L1_229 B1_229 hg kk mF mU mX tx mP pn (cmdA st c0 rg D lg).2 from by rw [hcp, perf_e.2.2.2.1 (by omega)]; exact ⟨rfl, MH_sw hMH (by omega) hq212.1 hq212.2 hq220.1 hq220.2 hq229.1 hq229.2, MX_c hMX rfl rfl rfl, MG_c hMG rfl rfl⟩)
          by_cases hs117_331 : c0 = 120
          · refine lv_lookup (off := 214) (tgt := 331) hx hb dMo_sign_117 (by decide) (by rw [iI_toInt ⟨by omega, by omega⟩]; show Op.lookupswitch.offset [(75, 152), (88, 190), (90, 173), (99, 130), (100, 117), (107, 167), (113, 207), (114, 91), (120, 214), (122, 137)] 220 c0 = 214; rw [hs117_331]; rfl) (by decide) ?_
            have hn2 : n9 = 1 := by unfold tkR at hq1; omega
            have hTy := MH_1 hMH (by omega)
            refine lv_aload_n hx hb dMo_sign_331 rfl (lv_at hl 2 rfl) ?_
            refine lv_iload_n hx hb dMo_sign_332 rfl (lv_at hl 0 rfl) ?_
            refine cv_i (va_runV (C := "MacroReckonerModel") (As := [.int (iI (25 + hg))]) (rest := []) ⟨hx, hb, hml, hown, hts⟩ (cMo_runTop l dC dI dA mo ft lf hg kk tx pn tk fm tO tl mI mT mS mC mL mB mF mU mX mP mK mD mZ (25 + hg) st (by omega) (by exact hTy) (by exact hMX) H.size) (cwV 1 hts (gdV wt5_77 wt5_79 ws6_0 wt1_8 wt5_80) rfl rfl rfl ⟨rfl, by decide, by decide, by decide +kernel⟩ ⟨by decide, by decide⟩) (preV (q := ("MacroReckonerModel", TMo, 23)) hK hP hD hS hA XN_ok trivial [0, 1, 2, 3, 4, 5, 6, 7, 8, 9, 10, 11, 12, 13] rfl rfl 0 rfl rfl) rfl rfl hl.1 rfl (lv_room (Nat.le_of_ble_eq_true rfl)) dMo_sign_333 ⟨Nat.zero_le _, Nat.zero_le _⟩) hP hD hS hA [0, 1, 2, 3, 4, 5, 6, 7, 8, 9, 10, 11, 12, 13] [] rfl (fun v_ => wMo dA mo ft lf v_.2.2.2.2 kk v_.2.2.2.1 pn tk fm tO tl mI mT mS mC mL mB v_.1 v_.2.1 v_.2.2.1 mP mK mD mZ []) (fun _ => rfl) ([] : va_W) rfl (fun _ => rfl) [mo, mo + 1, mo + 2, mo + 3, mo + 4, mo + 5, mo + 6, mo + 7, mo + 8, mo + 9, mo + 10, mo + 11, mo + 12, mo + 13] rfl (fun _ => rfl) (fun _ => rfl) (fun r333 u_ H locs hq333 hP hD hS => ?_)
            obtain ⟨F1_333, U1_333, X1_333, tx1_333, hg1_333⟩ := u_
            have hP : va_P (dC, dI) vwCl (wMo dA mo ft lf hg1_333 kk tx1_333 pn tk fm tO tl mI mT mS mC mL mB F1_333 U1_333 X1_333 mP mK mD mZ []) H := hP
            have hD : va_D A (wMo dA mo ft lf hg1_333 kk tx1_333 pn tk fm tO tl mI mT mS mC mL mB F1_333 U1_333 X1_333 mP mK mD mZ []) := hD
            have hq333 : r333 = (runA st).1 ∧ hg1_333 = (runA st).2.h ∧ MX F1_333 U1_333 X1_333 tx1_333 (runA st).2 := hq333
            exact rt_i hx hb hr hlocks hK hS dMo_sign_336 (mT, mS, mC, mL, mB, mD, mZ, F1_333, U1_333, X1_333, tx1_333, mP, pn, hg1_333, kk) hP hD (show r333 = (cmdA st c0 rg D lg).1 ∧ MA mT mS mC mL mB hg1_333 kk F1_333 U1_333 X1_333 tx1_333 mP pn (cmdA st c0 rg D lg).2 from by rw [hcp, perf_e.2.2.2.2.2.2.2.2.2.2.2.1 (by omega)]; have h := runA_k (st := st); rw [hq333.2.1]; exact ⟨hq333.1, MH_q hMH h.1 h.2.1 h.2.2.1 (by omega), hq333.2.2, MG_c hMG h.2.2.2.2.1 h.2.2.2.2.2.1⟩)
          by_cases hs117_254 : c0 = 122
          · refine lv_lookup (off := 137) (tgt := 254) hx hb dMo_sign_117 (by decide) (by rw [iI_toInt ⟨by omega, by omega⟩]; show Op.lookupswitch.offset [(75, 152), (88, 190), (90, 173), (99, 130), (100, 117), (107, 167), (113, 207), (114, 91), (120, 214), (122, 137)] 220 c0 = 137; rw [hs117_254]; rfl) (by decide) ?_
            refine lv_aload_n hx hb dMo_sign_254 rfl (lv_at hl 2 rfl) ?_
            refine lv_aload_n hx hb dMo_sign_255 rfl (lv_at hl 2 rfl) ?_
            refine va_get (D := (dC, dI)) (ci := 7) (v := .int (iI hg)) (C := "MacroReckonerModel") (T := TMo) (N := 23) hx hb hts inMo hown hK hP 0 rfl rfl 8 (by decide) (hts _ wt4_66) (fun _ h9 => h9) rfl dMo_sign_256 ?_
            refine cv_i (va_runV (C := "MacroReckonerModel") (As := [.int (iI hg)]) (rest := []) ⟨hx, hb, hml, hown, hts⟩ (cMo_makeSmall l dC dI dA mo ft lf hg kk tx pn tk fm tO tl mI mT mS mC mL mB mF mU mX mP mK mD mZ hg (by omega) H.size) (cwV 1 hts (gdV wt5_69 wt5_71 ws5_14 wt1_8 wt5_72) rfl rfl rfl ⟨rfl, by decide, by decide, by decide +kernel⟩ ⟨by decide, by decide⟩) (preV (q := ("MacroReckonerModel", TMo, 23)) hK hP hD hS hA XN_ok trivial [0, 1, 2, 3, 4, 5, 6, 7, 8, 9, 10, 11, 12, 13] rfl rfl 0 rfl rfl) rfl rfl hl.1 rfl (lv_room (Nat.le_of_ble_eq_true rfl)) dMo_sign_259 ⟨Nat.zero_le _, Nat.zero_le _⟩) hP hD hS hA [0, 1, 2, 3, 4, 5, 6, 7, 8, 9, 10, 11, 12, 13] [] rfl (fun v_ => wMo dA mo ft lf hg kk tx pn tk fm tO tl mI v_.1 v_.2.1 v_.2.2.1 v_.2.2.2.1 v_.2.2.2.2.1 mF mU mX mP mK v_.2.2.2.2.2.1 v_.2.2.2.2.2.2 []) (fun _ => rfl) ([] : va_W) rfl (fun _ => rfl) [mo, mo + 1, mo + 2, mo + 3, mo + 4, mo + 5, mo + 6, mo + 7, mo + 8, mo + 9, mo + 10, mo + 11, mo + 12, mo + 13] rfl (fun _ => rfl) (fun _ => rfl) (fun r259 u_ H locs hq259 hP hD hS => ?_)
            obtain ⟨T1_259, S1_259, C1_259, L1_259, B1_259, D1_259, Z1_259⟩ := u_
            have hP : va_P (dC, dI) vwCl (wMo dA mo ft lf hg kk tx pn tk fm tO tl mI T1_259 S1_259 C1_259 L1_259 B1_259 mF mU mX mP mK D1_259 Z1_259 []) H := hP
            have hD : va_D A (wMo dA mo ft lf hg kk tx pn tk fm tO tl mI T1_259 S1_259 C1_259 L1_259 B1_259 mF mU mX mP mK D1_259 Z1_259 []) := hD
            have hq259 : r259 = 0 ∧ MT T1_259 S1_259 C1_259 L1_259 B1_259 46 (mkN hg 0) ∧ thO mT mS mC mL mB T1_259 S1_259 C1_259 L1_259 B1_259 46 := hq259
            refine lv_pop hx hb dMo_sign_262 rfl ?_
            refine lv_aload_n hx hb dMo_sign_263 rfl (lv_at hl 2 rfl) ?_
            refine lv_iconst (v := iI 0) hx hb dMo_sign_264 rfl ?_
            refine cv_i (va_runV (C := "MacroReckonerModel") (As := [.int (iI 0)]) (rest := []) ⟨hx, hb, hml, hown, hts⟩ (cMo_put l dC dI dA mo ft lf hg kk tx pn tk fm tO tl mI T1_259 S1_259 C1_259 L1_259 B1_259 mF mU mX mP mK D1_259 Z1_259 0 (by omega) (by exact (MT_b hq259.2.1).1) H.size) (cwV 1 hts (gdV wt4_199 wt4_201 ws4_4 wt1_8 wt4_202) rfl rfl rfl ⟨rfl, by decide, by decide, by decide +kernel⟩ ⟨by decide, by decide⟩) (preV (q := ("MacroReckonerModel", TMo, 23)) hK hP hD hS hA XN_ok trivial [0, 1, 2, 3, 4, 5, 6, 7, 8, 9, 10, 11, 12, 13] rfl rfl 0 rfl rfl) rfl rfl hl.1 rfl (lv_room (Nat.le_of_ble_eq_true rfl)) dMo_sign_265 ⟨Nat.zero_le _, Nat.zero_le _⟩) hP hD hS hA [0, 1, 2, 3, 4, 5, 6, 7, 8, 9, 10, 11, 12, 13] [] rfl (fun v_ => wMo dA mo ft lf v_.2.2.2.2.2 kk tx pn tk fm tO tl mI v_.1 v_.2.1 v_.2.2.1 v_.2.2.2.1 v_.2.2.2.2.1 mF mU mX mP mK D1_259 Z1_259 []) (fun _ => rfl) ([] : va_W) rfl (fun _ => rfl) [mo, mo + 1, mo + 2, mo + 3, mo + 4, mo + 5, mo + 6, mo + 7, mo + 8, mo + 9, mo + 10, mo + 11, mo + 12, mo + 13] rfl (fun _ => rfl) (fun _ => rfl) (fun r265 u_ H locs hq265 hP hD hS => ?_)
            obtain ⟨T1_265, S1_265, C1_265, L1_265, B1_265, hg1_265⟩ := u_
            have hP : va_P (dC, dI) vwCl (wMo dA mo ft lf hg1_265 kk tx pn tk fm tO tl mI T1_265 S1_265 C1_265 L1_265 B1_265 mF mU mX mP mK D1_259 Z1_259 []) H := hP
            have hD : va_D A (wMo dA mo ft lf hg1_265 kk tx pn tk fm tO tl mI T1_265 S1_265 C1_265 L1_265 B1_265 mF mU mX mP mK D1_259 Z1_259 []) := hD
            have hq265 : putR r265 hg 0 hg1_265 T1_259 S1_259 C1_259 L1_259 B1_259 T1_265 S1_265 C1_265 L1_265 B1_265 := hq265
            exact rt_i hx hb hr hlocks hK hS dMo_sign_268 (T1_265, S1_265, C1_265, L1_265, B1_265, D1_259, Z1_259, mF, mU, mX, tx, mP, pn, hg1_265, kk) hP hD (show r265 = (cmdA st c0 rg D lg).1 ∧ MA T1_265 S1_265 C1_265 L1_265 B1_265 hg1_265 kk mF mU mX tx mP pn (cmdA st c0 rg D lg).2 from by rw [hcp, perf_e.2.2.2.2.2.1 (by omega)]; have h5 := hq259.2.1; rw [hh.1] at h5; have h6 := put_0 hq265 (MH_o hq259.2.2 hMH) h5; exact ⟨h6.1, h6.2, MX_push hMX, MG_push hMG⟩)
          refine lv_lookup (off := 220) (tgt := 337) hx hb dMo_sign_117 (by decide) (by rw [iI_toInt ⟨by omega, by omega⟩]; show Op.lookupswitch.offset [(75, 152), (88, 190), (90, 173), (99, 130), (100, 117), (107, 167), (113, 207), (114, 91), (120, 214), (122, 137)] 220 c0 = 220; simp only [Op.lookupswitch.offset_cons, Op.lookupswitch.offset_nil]; (first | rw [if_neg (by omega)] | simp); (first | rw [if_neg (by omega)] | simp); (first | rw [if_neg (by omega)] | simp); (first | rw [if_neg (by omega)] | simp); (first | rw [if_neg (by omega)] | simp); (first | rw [if_neg (by omega)] | simp); (first | rw [if_neg (by omega)] | simp); (first | rw [if_neg (by omega)] | simp); (first | rw [if_neg (by omega)] | simp); (first | rw [if_neg (by omega)] | simp)) (by decide) ?_
          have hc3 : (c0 = 112 ∧ n9 = 1) ∨ (c0 = 110 ∧ n9 = 1) ∨ (c0 = 102 ∧ n9 = 0) := by have h := (hrk.resolve_left (fun z => by omega)).2; unfold nums at h; unfold tkR at hq1; omega
          refine lv_aload_n hx hb dMo_sign_337 rfl (lv_at hl 2 rfl) ?_
          refine lv_iload_n hx hb dMo_sign_338 rfl (lv_at hl 3 rfl) ?_
          refine lv_iload_n hx hb dMo_sign_339 rfl (lv_at hl 0 rfl) ?_
          refine cv_i (va_runV (C := "MacroReckonerModel") (As := [.int (iI c0), .int (iI (25 + hg))]) (rest := []) ⟨hx, hb, hml, hown, hts⟩ (cMo_printSome l dC dI dA mo ft lf hg kk tx pn tk fm tO tl mI mT mS mC mL mB mF mU mX mP mK mD mZ c0 (25 + hg) st (by omega) (by omega) (by intro z; omega) (by exact hMH) (by exact hMG) H.size) (cwV 2 hts (gdV wt5_81 wt5_83 ws6_1 wt1_8 wt5_84) rfl rfl rfl ⟨rfl, by decide, by decide, by decide +kernel⟩ ⟨by decide, by decide⟩) (preV (q := ("MacroReckonerModel", TMo, 23)) hK hP hD hS hA XN_ok trivial [0, 1, 2, 3, 4, 5, 6, 7, 8, 9, 10, 11, 12, 13] rfl rfl 0 rfl rfl) rfl rfl hl.1 rfl (lv_room (Nat.le_of_ble_eq_true rfl)) dMo_sign_340 ⟨Nat.zero_le _, Nat.zero_le _⟩) hP hD hS hA [0, 1, 2, 3, 4, 5, 6, 7, 8, 9, 10, 11, 12, 13] [] rfl (fun v_ => wMo dA mo ft lf v_.2.2 kk tx v_.2.1 tk fm tO tl mI mT mS mC mL mB mF mU mX v_.1 mK mD mZ []) (fun _ => rfl) ([] : va_W) rfl (fun _ => rfl) [mo, mo + 1, mo + 2, mo + 3, mo + 4, mo + 5, mo + 6, mo + 7, mo + 8, mo + 9, mo + 10, mo + 11, mo + 12, mo + 13] rfl (fun _ => rfl) (fun _ => rfl) (fun r340 u_ H locs hq340 hP hD hS => ?_)
          obtain ⟨P1_340, pn1_340, hg1_340⟩ := u_
          have hP : va_P (dC, dI) vwCl (wMo dA mo ft lf hg1_340 kk tx pn1_340 tk fm tO tl mI mT mS mC mL mB mF mU mX P1_340 mK mD mZ []) H := hP
          have hD : va_D A (wMo dA mo ft lf hg1_340 kk tx pn1_340 tk fm tO tl mI mT mS mC mL mB mF mU mX P1_340 mK mD mZ []) := hD
          have hq340 : r340 = (prtA st c0).1 ∧ hg1_340 = (prtA st c0).2.h ∧ MG P1_340 pn1_340 (prtA st c0).2 := hq340
          exact rt_i hx hb hr hlocks hK hS dMo_sign_343 (mT, mS, mC, mL, mB, mD, mZ, mF, mU, mX, tx, P1_340, pn1_340, hg1_340, kk) hP hD (show r340 = (cmdA st c0 rg D lg).1 ∧ MA mT mS mC mL mB hg1_340 kk mF mU mX tx P1_340 pn1_340 (cmdA st c0 rg D lg).2 from by rw [hcp, perf_e.2.2.2.2.2.2.2.2.1 (by omega)]; have h := prtA_k (st := st) (c := c0) (by omega); rw [hq340.2.1]; exact ⟨hq340.1, MH_q hMH h.1 h.2.1 h.2.2.1 (by omega), MX_c hMX h.2.2.2.2.1 h.2.2.2.2.2.1 h.2.2.2.2.2.2.1, hq340.2.2⟩)
        · refine lv_aload_n hx hb dMo_sign_65 rfl (lv_at hl 2 rfl) ?_
          refine lv_iload_n hx hb dMo_sign_66 rfl (lv_at hl 1 rfl) ?_
          refine cv_i (va_runV (C := "MacroReckonerModel") (As := [.int (iI n9)]) (rest := []) ⟨hx, hb, hml, hown, hts⟩ (cMo_areNumbers l dC dI dA mo ft lf hg kk tx pn tk fm tO tl mI mT mS mC mL mB mF mU mX mP mK mD mZ n9 (by omega) (by exact hbo) H.size) (cwV 1 hts (gdV wt4_215 wt4_217 ws4_8 wt1_8 wt4_218) rfl rfl rfl ⟨rfl, by decide, by decide, by decide +kernel⟩ ⟨by decide, by decide⟩) (preV (q := ("MacroReckonerModel", TMo, 23)) hK hP hD hS hA XN_ok trivial [0, 1, 2, 3, 4, 5, 6, 7, 8, 9, 10, 11, 12, 13] rfl rfl 0 rfl rfl) rfl rfl hl.1 rfl (lv_room (Nat.le_of_ble_eq_true rfl)) dMo_sign_67 ⟨Nat.zero_le _, Nat.zero_le _⟩) hP hD hS hA [0, 1, 2, 3, 4, 5, 6, 7, 8, 9, 10, 11, 12, 13] [] rfl (fun v_ => wMo dA mo ft lf hg kk tx pn tk fm tO tl mI mT mS mC mL mB mF mU mX mP mK mD mZ []) (fun _ => rfl) ([] : va_W) rfl (fun _ => rfl) [mo, mo + 1, mo + 2, mo + 3, mo + 4, mo + 5, mo + 6, mo + 7, mo + 8, mo + 9, mo + 10, mo + 11, mo + 12, mo + 13] rfl (fun _ => rfl) (fun _ => rfl) (fun r67 u_ H locs hq67 hP hD hS => ?_)
          have hP : va_P (dC, dI) vwCl (wMo dA mo ft lf hg kk tx pn tk fm tO tl mI mT mS mC mL mB mF mU mX mP mK mD mZ []) H := hP
          have hD : va_D A (wMo dA mo ft lf hg kk tx pn tk fm tO tl mI mT mS mC mL mB mF mU mX mP mK mD mZ []) := hD
          have hq67 : anR mT hg n9 r67 := hq67
          have hr67 : r67 = 0 ∨ r67 = 1 := by rcases hq67 with ⟨z, -⟩ | ⟨z, -⟩ <;> omega
          refine iv_if_ne (tgt := 76) hx hb dMo_sign_70 (by decide) ⟨by omega, by omega⟩ (fun hc70 => ?_) (fun hc70 => ?_)
          · have hcp : cmdA st c0 rg D lg = perfA st c0 rg D lg := cmd_p (by omega) (fun z i x y => by first | exact absurd z (hrk.resolve_left (fun w => by omega)).2 | (have h := nt_e hMH (n := n9) (by omega) (by rcases hq67 with ⟨-, w⟩ | ⟨w, -⟩; exact w; omega) i (by omega) y; omega))
            refine lv_iload hx hb dMo_sign_76 (lv_at hl 4 rfl) ?_
            refine iv_if_eq (tgt := 116) hx hb dMo_sign_78 (by decide) ⟨by omega, by omega⟩ (fun hc78 => absurd hc78 (by omega)) (fun hc78 => ?_)
            refine lv_iload_n hx hb dMo_sign_81 rfl (lv_at hl 3 rfl) ?_
            refine lv_bipush (v := iI 107) hx hb dMo_sign_82 (by decide) ?_
            refine iv_icmp_eq (tgt := 116) hx hb dMo_sign_84 (by decide) ⟨by omega, by omega⟩ ⟨by decide, by decide⟩ (fun hc84 => ?_) (fun hc84 => ?_)
            · have hnn : (c0 = 107 ∧ rk = 1) ∨ (c0 ≠ 107 ∧ rk = 0) := by rcases hrk with ⟨z, w⟩ | ⟨z, w⟩; unfold nums at w; unfold tkR at hq1; omega; unfold nums at w; omega
              refine lv_iload_n hx hb dMo_sign_116 rfl (lv_at hl 3 rfl) ?_
              by_cases hs117_269 : c0 = 75
              · refine lv_lookup (off := 152) (tgt := 269) hx hb dMo_sign_117 (by decide) (by rw [iI_toInt ⟨by omega, by omega⟩]; show Op.lookupswitch.offset [(75, 152), (88, 190), (90, 173), (99, 130), (100, 117), (107, 167), (113, 207), (114, 91), (120, 214), (122, 137)] 220 c0 = 152; rw [hs117_269]; rfl) (by decide) ?_
                refine lv_aload_n hx hb dMo_sign_269 rfl (lv_at hl 2 rfl) ?_
                refine lv_aload_n hx hb dMo_sign_270 rfl (lv_at hl 2 rfl) ?_
                refine va_get (D := (dC, dI)) (ci := 7) (v := .int (iI kk)) (C := "MacroReckonerModel") (T := TMo) (N := 23) hx hb hts inMo hown hK hP 0 rfl rfl 9 (by decide) (hts _ wt4_67) (fun _ h9 => h9) rfl dMo_sign_271 ?_
                refine cv_i (va_runV (C := "MacroReckonerModel") (As := [.int (iI kk)]) (rest := []) ⟨hx, hb, hml, hown, hts⟩ (cMo_makeSmall l dC dI dA mo ft lf hg kk tx pn tk fm tO tl mI mT mS mC mL mB mF mU mX mP mK mD mZ kk (by omega) H.size) (cwV 1 hts (gdV wt5_69 wt5_71 ws5_14 wt1_8 wt5_72) rfl rfl rfl ⟨rfl, by decide, by decide, by decide +kernel⟩ ⟨by decide, by decide⟩) (preV (q := ("MacroReckonerModel", TMo, 23)) hK hP hD hS hA XN_ok trivial [0, 1, 2, 3, 4, 5, 6, 7, 8, 9, 10, 11, 12, 13] rfl rfl 0 rfl rfl) rfl rfl hl.1 rfl (lv_room (Nat.le_of_ble_eq_true rfl)) dMo_sign_274 ⟨Nat.zero_le _, Nat.zero_le _⟩) hP hD hS hA [0, 1, 2, 3, 4, 5, 6, 7, 8, 9, 10, 11, 12, 13] [] rfl (fun v_ => wMo dA mo ft lf hg kk tx pn tk fm tO tl mI v_.1 v_.2.1 v_.2.2.1 v_.2.2.2.1 v_.2.2.2.2.1 mF mU mX mP mK v_.2.2.2.2.2.1 v_.2.2.2.2.2.2 []) (fun _ => rfl) ([] : va_W) rfl (fun _ => rfl) [mo, mo + 1, mo + 2, mo + 3, mo + 4, mo + 5, mo + 6, mo + 7, mo + 8, mo + 9, mo + 10, mo + 11, mo + 12, mo + 13] rfl (fun _ => rfl) (fun _ => rfl) (fun r274 u_ H locs hq274 hP hD hS => ?_)
                obtain ⟨T1_274, S1_274, C1_274, L1_274, B1_274, D1_274, Z1_274⟩ := u_
                have hP : va_P (dC, dI) vwCl (wMo dA mo ft lf hg kk tx pn tk fm tO tl mI T1_274 S1_274 C1_274 L1_274 B1_274 mF mU mX mP mK D1_274 Z1_274 []) H := hP
                have hD : va_D A (wMo dA mo ft lf hg kk tx pn tk fm tO tl mI T1_274 S1_274 C1_274 L1_274 B1_274 mF mU mX mP mK D1_274 Z1_274 []) := hD
                have hq274 : r274 = 0 ∧ MT T1_274 S1_274 C1_274 L1_274 B1_274 46 (mkN kk 0) ∧ thO mT mS mC mL mB T1_274 S1_274 C1_274 L1_274 B1_274 46 := hq274
                refine lv_pop hx hb dMo_sign_277 rfl ?_
                refine lv_aload_n hx hb dMo_sign_278 rfl (lv_at hl 2 rfl) ?_
                refine lv_iconst (v := iI 0) hx hb dMo_sign_279 rfl ?_
                refine cv_i (va_runV (C := "MacroReckonerModel") (As := [.int (iI 0)]) (rest := []) ⟨hx, hb, hml, hown, hts⟩ (cMo_put l dC dI dA mo ft lf hg kk tx pn tk fm tO tl mI T1_274 S1_274 C1_274 L1_274 B1_274 mF mU mX mP mK D1_274 Z1_274 0 (by omega) (by exact (MT_b hq274.2.1).1) H.size) (cwV 1 hts (gdV wt4_199 wt4_201 ws4_4 wt1_8 wt4_202) rfl rfl rfl ⟨rfl, by decide, by decide, by decide +kernel⟩ ⟨by decide, by decide⟩) (preV (q := ("MacroReckonerModel", TMo, 23)) hK hP hD hS hA XN_ok trivial [0, 1, 2, 3, 4, 5, 6, 7, 8, 9, 10, 11, 12, 13] rfl rfl 0 rfl rfl) rfl rfl hl.1 rfl (lv_room (Nat.le_of_ble_eq_true rfl)) dMo_sign_280 ⟨Nat.zero_le _, Nat.zero_le _⟩) hP hD hS hA [0, 1, 2, 3, 4, 5, 6, 7, 8, 9, 10, 11, 12, 13] [] rfl (fun v_ => wMo dA mo ft lf v_.2.2.2.2.2 kk tx pn tk fm tO tl mI v_.1 v_.2.1 v_.2.2.1 v_.2.2.2.1 v_.2.2.2.2.1 mF mU mX mP mK D1_274 Z1_274 []) (fun _ => rfl) ([] : va_W) rfl (fun _ => rfl) [mo, mo + 1, mo + 2, mo + 3, mo + 4, mo + 5, mo + 6, mo + 7, mo + 8, mo + 9, mo + 10, mo + 11, mo + 12, mo + 13] rfl (fun _ => rfl) (fun _ => rfl) (fun r280 u_ H locs hq280 hP hD hS => ?_)
                obtain ⟨T1_280, S1_280, C1_280, L1_280, B1_280, hg1_280⟩ := u_
                have hP : va_P (dC, dI) vwCl (wMo dA mo ft lf hg1_280 kk tx pn tk fm tO tl mI T1_280 S1_280 C1_280 L1_280 B1_280 mF mU mX mP mK D1_274 Z1_274 []) H := hP
                have hD : va_D A (wMo dA mo ft lf hg1_280 kk tx pn tk fm tO tl mI T1_280 S1_280 C1_280 L1_280 B1_280 mF mU mX mP mK D1_274 Z1_274 []) := hD
                have hq280 : putR r280 hg 0 hg1_280 T1_274 S1_274 C1_274 L1_274 B1_274 T1_280 S1_280 C1_280 L1_280 B1_280 := hq280
                exact rt_i hx hb hr hlocks hK hS dMo_sign_283 (T1_280, S1_280, C1_280, L1_280, B1_280, D1_274, Z1_274, mF, mU, mX, tx, mP, pn, hg1_280, kk) hP hD (show r280 = (cmdA st c0 rg D lg).1 ∧ MA T1_280 S1_280 C1_280 L1_280 B1_280 hg1_280 kk mF mU mX tx mP pn (cmdA st c0 rg D lg).2 from by rw [hcp, perf_e.2.2.2.2.2.2.1 (by omega)]; have h5 := hq274.2.1; rw [hk9.1] at h5; have h6 := put_0 hq280 (MH_o hq274.2.2 hMH) h5; exact ⟨h6.1, h6.2, MX_push hMX, MG_push hMG⟩)
              by_cases hs117_307 : c0 = 88
              · refine lv_lookup (off := 190) (tgt := 307) hx hb dMo_sign_117 (by decide) (by rw [iI_toInt ⟨by omega, by omega⟩]; show Op.lookupswitch.offset [(75, 152), (88, 190), (90, 173), (99, 130), (100, 117), (107, 167), (113, 207), (114, 91), (120, 214), (122, 137)] 220 c0 = 190; rw [hs117_307]; rfl) (by decide) ?_
                have hn2 : n9 = 1 := by unfold tkR at hq1; omega
                have hTy := MH_1 hMH (by omega)
                have hlt := MT_b hTy
                refine lv_aload_n hx hb dMo_sign_307 rfl (lv_at hl 2 rfl) ?_
                refine lv_aload_n hx hb dMo_sign_308 rfl (lv_at hl 2 rfl) ?_
                refine va_get (D := (dC, dI)) (ci := 7) (v := .ref (mo + 4)) (C := "MacroReckonerModel") (T := TMo) (N := 23) hx hb hts inMo hown hK hP 0 rfl rfl 5 (by decide) (hts _ wt4_63) (fun _ h9 => h9) rfl dMo_sign_309 ?_
                refine lv_iload_n hx hb dMo_sign_312 rfl (lv_at hl 0 rfl) ?_
                refine iv_iald hx hb hK hP 4 0 rfl rfl (by decide) dMo_sign_313 (by omega) (by omega) ?_
                refine cv_i (va_runV (C := "MacroReckonerModel") (As := [.int (iI (mC (25 + hg)))]) (rest := []) ⟨hx, hb, hml, hown, hts⟩ (cMo_makeSmall l dC dI dA mo ft lf hg kk tx pn tk fm tO tl mI mT mS mC mL mB mF mU mX mP mK mD mZ (mC (25 + hg)) (by omega) H.size) (cwV 1 hts (gdV wt5_69 wt5_71 ws5_14 wt1_8 wt5_72) rfl rfl rfl ⟨rfl, by decide, by decide, by decide +kernel⟩ ⟨by decide, by decide⟩) (preV (q := ("MacroReckonerModel", TMo, 23)) hK hP hD hS hA XN_ok trivial [0, 1, 2, 3, 4, 5, 6, 7, 8, 9, 10, 11, 12, 13] rfl rfl 0 rfl rfl) rfl rfl hl.1 rfl (lv_room (Nat.le_of_ble_eq_true rfl)) dMo_sign_314 ⟨Nat.zero_le _, Nat.zero_le _⟩) hP hD hS hA [0, 1, 2, 3, 4, 5, 6, 7, 8, 9, 10, 11, 12, 13] [] rfl (fun v_ => wMo dA mo ft lf hg kk tx pn tk fm tO tl mI v_.1 v_.2.1 v_.2.2.1 v_.2.2.2.1 v_.2.2.2.2.1 mF mU mX mP mK v_.2.2.2.2.2.1 v_.2.2.2.2.2.2 []) (fun _ => rfl) ([] : va_W) rfl (fun _ => rfl) [mo, mo + 1, mo + 2, mo + 3, mo + 4, mo + 5, mo + 6, mo + 7, mo + 8, mo + 9, mo + 10, mo + 11, mo + 12, mo + 13] rfl (fun _ => rfl) (fun _ => rfl) (fun r314 u_ H locs hq314 hP hD hS => ?_)
                obtain ⟨T1_314, S1_314, C1_314, L1_314, B1_314, D1_314, Z1_314⟩ := u_
                have hP : va_P (dC, dI) vwCl (wMo dA mo ft lf hg kk tx pn tk fm tO tl mI T1_314 S1_314 C1_314 L1_314 B1_314 mF mU mX mP mK D1_314 Z1_314 []) H := hP
                have hD : va_D A (wMo dA mo ft lf hg kk tx pn tk fm tO tl mI T1_314 S1_314 C1_314 L1_314 B1_314 mF mU mX mP mK D1_314 Z1_314 []) := hD
                have hq314 : r314 = 0 ∧ MT T1_314 S1_314 C1_314 L1_314 B1_314 46 (mkN (mC (25 + hg)) 0) ∧ thO mT mS mC mL mB T1_314 S1_314 C1_314 L1_314 B1_314 46 := hq314
                refine lv_pop hx hb dMo_sign_317 rfl ?_
                refine lv_aload_n hx hb dMo_sign_318 rfl (lv_at hl 2 rfl) ?_
                refine lv_iconst (v := iI 1) hx hb dMo_sign_319 rfl ?_
                refine cv_i (va_runV (C := "MacroReckonerModel") (As := [.int (iI 1)]) (rest := []) ⟨hx, hb, hml, hown, hts⟩ (cMo_put l dC dI dA mo ft lf hg kk tx pn tk fm tO tl mI T1_314 S1_314 C1_314 L1_314 B1_314 mF mU mX mP mK D1_314 Z1_314 1 (by omega) (by exact (MT_b hq314.2.1).1) H.size) (cwV 1 hts (gdV wt4_199 wt4_201 ws4_4 wt1_8 wt4_202) rfl rfl rfl ⟨rfl, by decide, by decide, by decide +kernel⟩ ⟨by decide, by decide⟩) (preV (q := ("MacroReckonerModel", TMo, 23)) hK hP hD hS hA XN_ok trivial [0, 1, 2, 3, 4, 5, 6, 7, 8, 9, 10, 11, 12, 13] rfl rfl 0 rfl rfl) rfl rfl hl.1 rfl (lv_room (Nat.le_of_ble_eq_true rfl)) dMo_sign_320 ⟨Nat.zero_le _, Nat.zero_le _⟩) hP hD hS hA [0, 1, 2, 3, 4, 5, 6, 7, 8, 9, 10, 11, 12, 13] [] rfl (fun v_ => wMo dA mo ft lf v_.2.2.2.2.2 kk tx pn tk fm tO tl mI v_.1 v_.2.1 v_.2.2.1 v_.2.2.2.1 v_.2.2.2.2.1 mF mU mX mP mK D1_314 Z1_314 []) (fun _ => rfl) ([] : va_W) rfl (fun _ => rfl) [mo, mo + 1, mo + 2, mo + 3, mo + 4, mo + 5, mo + 6, mo + 7, mo + 8, mo + 9, mo + 10, mo + 11, mo + 12, mo + 13] rfl (fun _ => rfl) (fun _ => rfl) (fun r320 u_ H locs hq320 hP hD hS => ?_)
                obtain ⟨T1_320, S1_320, C1_320, L1_320, B1_320, hg1_320⟩ := u_
                have hP : va_P (dC, dI) vwCl (wMo dA mo ft lf hg1_320 kk tx pn tk fm tO tl mI T1_320 S1_320 C1_320 L1_320 B1_320 mF mU mX mP mK D1_314 Z1_314 []) H := hP
                have hD : va_D A (wMo dA mo ft lf hg1_320 kk tx pn tk fm tO tl mI T1_320 S1_320 C1_320 L1_320 B1_320 mF mU mX mP mK D1_314 Z1_314 []) := hD
                have hq320 : putR r320 hg 1 hg1_320 T1_314 S1_314 C1_314 L1_314 B1_314 T1_320 S1_320 C1_320 L1_320 B1_320 := hq320
                exact rt_i hx hb hr hlocks hK hS dMo_sign_323 (T1_320, S1_320, C1_320, L1_320, B1_320, D1_314, Z1_314, mF, mU, mX, tx, mP, pn, hg1_320, kk) hP hD (show r320 = (cmdA st c0 rg D lg).1 ∧ MA T1_320 S1_320 C1_320 L1_320 B1_320 hg1_320 kk mF mU mX tx mP pn (cmdA st c0 rg D lg).2 from by rw [hcp, perf_e.2.2.2.2.2.2.2.2.2.2.1 (by omega)]; have h5 := hq314.2.1; rw [hlt.2.2.1] at h5; have h6 := put_n hq320 (MH_o hq314.2.2 hMH) h5 (by omega); exact ⟨h6.1, MH_u h6.2, MX_c hMX rfl rfl rfl, MG_c hMG rfl rfl⟩)
              by_cases hs117_290 : c0 = 90
              · refine lv_lookup (off := 173) (tgt := 290) hx hb dMo_sign_117 (by decide) (by rw [iI_toInt ⟨by omega, by omega⟩]; show Op.lookupswitch.offset [(75, 152), (88, 190), (90, 173), (99, 130), (100, 117), (107, 167), (113, 207), (114, 91), (120, 214), (122, 137)] 220 c0 = 173; rw [hs117_290]; rfl) (by decide) ?_
                have hn2 : n9 = 1 := by unfold tkR at hq1; omega
                have hTy := MH_1 hMH (by omega)
                have hlt := MT_b hTy
                refine lv_aload_n hx hb dMo_sign_290 rfl (lv_at hl 2 rfl) ?_
                refine lv_aload_n hx hb dMo_sign_291 rfl (lv_at hl 2 rfl) ?_
                refine va_get (D := (dC, dI)) (ci := 7) (v := .ref (mo + 5)) (C := "MacroReckonerModel") (T := TMo) (N := 23) hx hb hts inMo hown hK hP 0 rfl rfl 6 (by decide) (hts _ wt4_64) (fun _ h9 => h9) rfl dMo_sign_292 ?_
                refine lv_iload_n hx hb dMo_sign_295 rfl (lv_at hl 0 rfl) ?_
                refine iv_iald hx hb hK hP 5 0 rfl rfl (by decide) dMo_sign_296 (by omega) (by omega) ?_
                refine cv_i (va_runV (C := "MacroReckonerModel") (As := [.int (iI (mL (25 + hg)))]) (rest := []) ⟨hx, hb, hml, hown, hts⟩ (cMo_makeSmall l dC dI dA mo ft lf hg kk tx pn tk fm tO tl mI mT mS mC mL mB mF mU mX mP mK mD mZ (mL (25 + hg)) (by omega) H.size) (cwV 1 hts (gdV wt5_69 wt5_71 ws5_14 wt1_8 wt5_72) rfl rfl rfl ⟨rfl, by decide, by decide, by decide +kernel⟩ ⟨by decide, by decide⟩) (preV (q := ("MacroReckonerModel", TMo, 23)) hK hP hD hS hA XN_ok trivial [0, 1, 2, 3, 4, 5, 6, 7, 8, 9, 10, 11, 12, 13] rfl rfl 0 rfl rfl) rfl rfl hl.1 rfl (lv_room (Nat.le_of_ble_eq_true rfl)) dMo_sign_297 ⟨Nat.zero_le _, Nat.zero_le _⟩) hP hD hS hA [0, 1, 2, 3, 4, 5, 6, 7, 8, 9, 10, 11, 12, 13] [] rfl (fun v_ => wMo dA mo ft lf hg kk tx pn tk fm tO tl mI v_.1 v_.2.1 v_.2.2.1 v_.2.2.2.1 v_.2.2.2.2.1 mF mU mX mP mK v_.2.2.2.2.2.1 v_.2.2.2.2.2.2 []) (fun _ => rfl) ([] : va_W) rfl (fun _ => rfl) [mo, mo + 1, mo + 2, mo + 3, mo + 4, mo + 5, mo + 6, mo + 7, mo + 8, mo + 9, mo + 10, mo + 11, mo + 12, mo + 13] rfl (fun _ => rfl) (fun _ => rfl) (fun r297 u_ H locs hq297 hP hD hS => ?_)
                obtain ⟨T1_297, S1_297, C1_297, L1_297, B1_297, D1_297, Z1_297⟩ := u_
                have hP : va_P (dC, dI) vwCl (wMo dA mo ft lf hg kk tx pn tk fm tO tl mI T1_297 S1_297 C1_297 L1_297 B1_297 mF mU mX mP mK D1_297 Z1_297 []) H := hP
                have hD : va_D A (wMo dA mo ft lf hg kk tx pn tk fm tO tl mI T1_297 S1_297 C1_297 L1_297 B1_297 mF mU mX mP mK D1_297 Z1_297 []) := hD
                have hq297 : r297 = 0 ∧ MT T1_297 S1_297 C1_297 L1_297 B1_297 46 (mkN (mL (25 + hg)) 0) ∧ thO mT mS mC mL mB T1_297 S1_297 C1_297 L1_297 B1_297 46 := hq297
                refine lv_pop hx hb dMo_sign_300 rfl ?_
                refine lv_aload_n hx hb dMo_sign_301 rfl (lv_at hl 2 rfl) ?_
                refine lv_iconst (v := iI 1) hx hb dMo_sign_302 rfl ?_
                refine cv_i (va_runV (C := "MacroReckonerModel") (As := [.int (iI 1)]) (rest := []) ⟨hx, hb, hml, hown, hts⟩ (cMo_put l dC dI dA mo ft lf hg kk tx pn tk fm tO tl mI T1_297 S1_297 C1_297 L1_297 B1_297 mF mU mX mP mK D1_297 Z1_297 1 (by omega) (by exact (MT_b hq297.2.1).1) H.size) (cwV 1 hts (gdV wt4_199 wt4_201 ws4_4 wt1_8 wt4_202) rfl rfl rfl ⟨rfl, by decide, by decide, by decide +kernel⟩ ⟨by decide, by decide⟩) (preV (q := ("MacroReckonerModel", TMo, 23)) hK hP hD hS hA XN_ok trivial [0, 1, 2, 3, 4, 5, 6, 7, 8, 9, 10, 11, 12, 13] rfl rfl 0 rfl rfl) rfl rfl hl.1 rfl (lv_room (Nat.le_of_ble_eq_true rfl)) dMo_sign_303 ⟨Nat.zero_le _, Nat.zero_le _⟩) hP hD hS hA [0, 1, 2, 3, 4, 5, 6, 7, 8, 9, 10, 11, 12, 13] [] rfl (fun v_ => wMo dA mo ft lf v_.2.2.2.2.2 kk tx pn tk fm tO tl mI v_.1 v_.2.1 v_.2.2.1 v_.2.2.2.1 v_.2.2.2.2.1 mF mU mX mP mK D1_297 Z1_297 []) (fun _ => rfl) ([] : va_W) rfl (fun _ => rfl) [mo, mo + 1, mo + 2, mo + 3, mo + 4, mo + 5, mo + 6, mo + 7, mo + 8, mo + 9, mo + 10, mo + 11, mo + 12, mo + 13] rfl (fun _ => rfl) (fun _ => rfl) (fun r303 u_ H locs hq303 hP hD hS => ?_)
                obtain ⟨T1_303, S1_303, C1_303, L1_303, B1_303, hg1_303⟩ := u_
                have hP : va_P (dC, dI) vwCl (wMo dA mo ft lf hg1_303 kk tx pn tk fm tO tl mI T1_303 S1_303 C1_303 L1_303 B1_303 mF mU mX mP mK D1_297 Z1_297 []) H := hP
                have hD : va_D A (wMo dA mo ft lf hg1_303 kk tx pn tk fm tO tl mI T1_303 S1_303 C1_303 L1_303 B1_303 mF mU mX mP mK D1_297 Z1_297 []) := hD
                have hq303 : putR r303 hg 1 hg1_303 T1_297 S1_297 C1_297 L1_297 B1_297 T1_303 S1_303 C1_303 L1_303 B1_303 := hq303
                exact rt_i hx hb hr hlocks hK hS dMo_sign_306 (T1_303, S1_303, C1_303, L1_303, B1_303, D1_297, Z1_297, mF, mU, mX, tx, mP, pn, hg1_303, kk) hP hD (show r303 = (cmdA st c0 rg D lg).1 ∧ MA T1_303 S1_303 C1_303 L1_303 B1_303 hg1_303 kk mF mU mX tx mP pn (cmdA st c0 rg D lg).2 from by rw [hcp, perf_e.2.2.2.2.2.2.2.2.2.1 (by omega)]; have h5 := hq297.2.1; rw [← thZ_e hTy] at h5; have h6 := put_n hq303 (MH_o hq297.2.2 hMH) h5 (by omega); exact ⟨h6.1, MH_u h6.2, MX_c hMX rfl rfl rfl, MG_c hMG rfl rfl⟩)
              by_cases hs117_247 : c0 = 99
              · refine lv_lookup (off := 130) (tgt := 247) hx hb dMo_sign_117 (by decide) (by rw [iI_toInt ⟨by omega, by omega⟩]; show Op.lookupswitch.offset [(75, 152), (88, 190), (90, 173), (99, 130), (100, 117), (107, 167), (113, 207), (114, 91), (120, 214), (122, 137)] 220 c0 = 130; rw [hs117_247]; rfl) (by decide) ?_
                refine lv_aload_n hx hb dMo_sign_247 rfl (lv_at hl 2 rfl) ?_
                refine lv_iconst (v := iI 0) hx hb dMo_sign_248 rfl ?_
                refine va_put (D := (dC, dI)) (ci := 7) (v := .int (iI 0)) (ty := .int) (C := "MacroReckonerModel") (T := TMo) (N := 23) hx hb hts inMo tyMo tyMo_ok nmMo hown hK hP hD hS 0 rfl rfl 8 (by decide) (hts _ wt4_66) (fun _ h9 => h9) rfl (by decide +kernel) rfl rfl (Nat.le_of_ble_eq_true rfl) dMo_sign_249 (fun H locs hP hD hS => ?_)
                have hP : va_P (dC, dI) vwCl (wMo dA mo ft lf 0 kk tx pn tk fm tO tl mI mT mS mC mL mB mF mU mX mP mK mD mZ []) H := hP
                have hD : va_D A (wMo dA mo ft lf 0 kk tx pn tk fm tO tl mI mT mS mC mL mB mF mU mX mP mK mD mZ []) := hD
                refine lv_iconst (v := iI 0) hx hb dMo_sign_252 rfl ?_
                exact rt_i hx hb hr hlocks hK hS dMo_sign_253 (mT, mS, mC, mL, mB, mD, mZ, mF, mU, mX, tx, mP, pn, 0, kk) hP hD (show 0 = (cmdA st c0 rg D lg).1 ∧ MA mT mS mC mL mB 0 kk mF mU mX tx mP pn (cmdA st c0 rg D lg).2 from by rw [hcp, perf_e.2.2.2.2.1 (by omega)]; exact ⟨rfl, MA_h hMA0 (by omega)⟩)
              by_cases hs117_234 : c0 = 100
              · refine lv_lookup (off := 117) (tgt := 234) hx hb dMo_sign_117 (by decide) (by rw [iI_toInt ⟨by omega, by omega⟩]; show Op.lookupswitch.offset [(75, 152), (88, 190), (90, 173), (99, 130), (100, 117), (107, 167), (113, 207), (114, 91), (120, 214), (122, 137)] 220 c0 = 117; rw [hs117_234]; rfl) (by decide) ?_
                have hn2 : n9 = 1 := by unfold tkR at hq1; omega
                have hTy := MH_1 hMH (by omega)
                refine lv_aload_n hx hb dMo_sign_234 rfl (lv_at hl 2 rfl) ?_
                refine lv_bipush (v := iI 46) hx hb dMo_sign_235 (by decide) ?_
                refine lv_iload_n hx hb dMo_sign_237 rfl (lv_at hl 0 rfl) ?_
                refine cv_v (va_runV (C := "MacroReckonerModel") (As := [.int (iI 46), .int (iI (25 + hg))]) (rest := []) ⟨hx, hb, hml, hown, hts⟩ (cMo_move l dC dI dA mo ft lf hg kk tx pn tk fm tO tl mI mT mS mC mL mB mF mU mX mP mK mD mZ 46 (25 + hg) (by omega) (by exact hbo _ (by omega) (by omega)) H.size) (cwV 2 hts (gdV wt4_203 wt4_205 ws4_5 wt1_8 wt4_206) rfl rfl rfl ⟨rfl, by decide, by decide, by decide +kernel⟩ ⟨by decide, by decide⟩) (preV (q := ("MacroReckonerModel", TMo, 23)) hK hP hD hS hA XN_ok trivial [0, 1, 2, 3, 4, 5, 6, 7, 8, 9, 10, 11, 12, 13] rfl rfl 0 rfl rfl) rfl rfl hl.1 rfl (lv_room (Nat.le_of_ble_eq_true rfl)) dMo_sign_238 ⟨Nat.zero_le _, Nat.zero_le _⟩) hP hD hS hA [0, 1, 2, 3, 4, 5, 6, 7, 8, 9, 10, 11, 12, 13] [] rfl (fun v_ => wMo dA mo ft lf hg kk tx pn tk fm tO tl mI v_.1 v_.2.1 v_.2.2.1 v_.2.2.2.1 v_.2.2.2.2 mF mU mX mP mK mD mZ []) (fun _ => rfl) ([] : va_W) rfl (fun _ => rfl) [mo, mo + 1, mo + 2, mo + 3, mo + 4, mo + 5, mo + 6, mo + 7, mo + 8, mo + 9, mo + 10, mo + 11, mo + 12, mo + 13] rfl (fun _ => rfl) (fun _ => rfl) (fun u_ H locs hq238 hP hD hS => ?_)
                obtain ⟨T1_238, S1_238, C1_238, L1_238, B1_238⟩ := u_
                have hP : va_P (dC, dI) vwCl (wMo dA mo ft lf hg kk tx pn tk fm tO tl mI T1_238 S1_238 C1_238 L1_238 B1_238 mF mU mX mP mK mD mZ []) H := hP
                have hD : va_D A (wMo dA mo ft lf hg kk tx pn tk fm tO tl mI T1_238 S1_238 C1_238 L1_238 B1_238 mF mU mX mP mK mD mZ []) := hD
                have hq238 : (∀ a, MT mT mS mC mL mB (25 + hg) a → MT T1_238 S1_238 C1_238 L1_238 B1_238 46 a) ∧ thO mT mS mC mL mB T1_238 S1_238 C1_238 L1_238 B1_238 46 := hq238
                refine lv_aload_n hx hb dMo_sign_241 rfl (lv_at hl 2 rfl) ?_
                refine lv_iconst (v := iI 0) hx hb dMo_sign_242 rfl ?_
                refine cv_i (va_runV (C := "MacroReckonerModel") (As := [.int (iI 0)]) (rest := []) ⟨hx, hb, hml, hown, hts⟩ (cMo_put l dC dI dA mo ft lf hg kk tx pn tk fm tO tl mI T1_238 S1_238 C1_238 L1_238 B1_238 mF mU mX mP mK mD mZ 0 (by omega) (by exact (MT_b (hq238.1 _ hTy)).1) H.size) (cwV 1 hts (gdV wt4_199 wt4_201 ws4_4 wt1_8 wt4_202) rfl rfl rfl ⟨rfl, by decide, by decide, by decide +kernel⟩ ⟨by decide, by decide⟩) (preV (q := ("MacroReckonerModel", TMo, 23)) hK hP hD hS hA XN_ok trivial [0, 1, 2, 3, 4, 5, 6, 7, 8, 9, 10, 11, 12, 13] rfl rfl 0 rfl rfl) rfl rfl hl.1 rfl (lv_room (Nat.le_of_ble_eq_true rfl)) dMo_sign_243 ⟨Nat.zero_le _, Nat.zero_le _⟩) hP hD hS hA [0, 1, 2, 3, 4, 5, 6, 7, 8, 9, 10, 11, 12, 13] [] rfl (fun v_ => wMo dA mo ft lf v_.2.2.2.2.2 kk tx pn tk fm tO tl mI v_.1 v_.2.1 v_.2.2.1 v_.2.2.2.1 v_.2.2.2.2.1 mF mU mX mP mK mD mZ []) (fun _ => rfl) ([] : va_W) rfl (fun _ => rfl) [mo, mo + 1, mo + 2, mo + 3, mo + 4, mo + 5, mo + 6, mo + 7, mo + 8, mo + 9, mo + 10, mo + 11, mo + 12, mo + 13] rfl (fun _ => rfl) (fun _ => rfl) (fun r243 u_ H locs hq243 hP hD hS => ?_)
                obtain ⟨T1_243, S1_243, C1_243, L1_243, B1_243, hg1_243⟩ := u_
                have hP : va_P (dC, dI) vwCl (wMo dA mo ft lf hg1_243 kk tx pn tk fm tO tl mI T1_243 S1_243 C1_243 L1_243 B1_243 mF mU mX mP mK mD mZ []) H := hP
                have hD : va_D A (wMo dA mo ft lf hg1_243 kk tx pn tk fm tO tl mI T1_243 S1_243 C1_243 L1_243 B1_243 mF mU mX mP mK mD mZ []) := hD
                have hq243 : putR r243 hg 0 hg1_243 T1_238 S1_238 C1_238 L1_238 B1_238 T1_243 S1_243 C1_243 L1_243 B1_243 := hq243
                exact rt_i hx hb hr hlocks hK hS dMo_sign_246 (T1_243, S1_243, C1_243, L1_243, B1_243, mD, mZ, mF, mU, mX, tx, mP, pn, hg1_243, kk) hP hD (show r243 = (cmdA st c0 rg D lg).1 ∧ MA T1_243 S1_243 C1_243 L1_243 B1_243 hg1_243 kk mF mU mX tx mP pn (cmdA st c0 rg D lg).2 from by rw [hcp, perf_e.2.2.1 (by omega)]; have h6 := put_0 hq243 (MH_o hq238.2 hMH) (hq238.1 _ hTy); exact ⟨h6.1, h6.2, MX_push hMX, MG_push hMG⟩)
              by_cases hs117_284 : c0 = 107
              · refine lv_lookup (off := 167) (tgt := 284) hx hb dMo_sign_117 (by decide) (by rw [iI_toInt ⟨by omega, by omega⟩]; show Op.lookupswitch.offset [(75, 152), (88, 190), (90, 173), (99, 130), (100, 117), (107, 167), (113, 207), (114, 91), (120, 214), (122, 137)] 220 c0 = 167; rw [hs117_284]; rfl) (by decide) ?_
                have hn2 : n9 = 1 := by unfold tkR at hq1; omega
                have hTy := MH_1 hMH (by omega)
                refine lv_aload_n hx hb dMo_sign_284 rfl (lv_at hl 2 rfl) ?_
                refine lv_iload_n hx hb dMo_sign_285 rfl (lv_at hl 0 rfl) ?_
                refine cv_i (va_runV (C := "MacroReckonerModel") (As := [.int (iI (25 + hg))]) (rest := []) ⟨hx, hb, hml, hown, hts⟩ (cMo_setScale l dC dI dA mo ft lf hg kk tx pn tk fm tO tl mI mT mS mC mL mB mF mU mX mP mK mD mZ (25 + hg) ((st.stk (st.h - 1))) (by omega) (by exact hTy) (by first | exact nt_e hMH (n := n9) (by omega) (by rcases hq67 with ⟨-, w⟩ | ⟨w, -⟩; exact w; omega) _ (by omega) (by omega) | (exfalso; omega)) (by omega) H.size) (cwV 1 hts (gdV wt5_73 wt5_75 ws5_15 wt1_8 wt5_76) rfl rfl rfl ⟨rfl, by decide, by decide, by decide +kernel⟩ ⟨by decide, by decide⟩) (preV (q := ("MacroReckonerModel", TMo, 23)) hK hP hD hS hA XN_ok trivial [0, 1, 2, 3, 4, 5, 6, 7, 8, 9, 10, 11, 12, 13] rfl rfl 0 rfl rfl) rfl rfl hl.1 rfl (lv_room (Nat.le_of_ble_eq_true rfl)) dMo_sign_286 ⟨Nat.zero_le _, Nat.zero_le _⟩) hP hD hS hA [0, 1, 2, 3, 4, 5, 6, 7, 8, 9, 10, 11, 12, 13] [] rfl (fun v_ => wMo dA mo ft lf v_.2 v_.1 tx pn tk fm tO tl mI mT mS mC mL mB mF mU mX mP mK mD mZ []) (fun _ => rfl) ([] : va_W) rfl (fun _ => rfl) [mo, mo + 1, mo + 2, mo + 3, mo + 4, mo + 5, mo + 6, mo + 7, mo + 8, mo + 9, mo + 10, mo + 11, mo + 12, mo + 13] rfl (fun _ => rfl) (fun _ => rfl) (fun r286 u_ H locs hq286 hP hD hS => ?_)
                obtain ⟨kk1_286, hg1_286⟩ := u_
                have hP : va_P (dC, dI) vwCl (wMo dA mo ft lf hg1_286 kk1_286 tx pn tk fm tO tl mI mT mS mC mL mB mF mU mX mP mK mD mZ []) H := hP
                have hD : va_D A (wMo dA mo ft lf hg1_286 kk1_286 tx pn tk fm tO tl mI mT mS mC mL mB mF mU mX mP mK mD mZ []) := hD
                have hq286 : (r286 = -4 ∧ kk1_286 = kk ∧ hg1_286 = hg ∧ (((st.stk (st.h - 1))).sc ≠ 0 ∨ ((st.stk (st.h - 1))).v < 0 ∨ 40 < ((st.stk (st.h - 1))).v)) ∨ (r286 = 0 ∧ kk1_286 = ((st.stk (st.h - 1))).v ∧ hg1_286 = hg - 1 ∧ ¬ (((st.stk (st.h - 1))).sc ≠ 0 ∨ ((st.stk (st.h - 1))).v < 0 ∨ 40 < ((st.stk (st.h - 1))).v)) := hq286
                exact rt_i hx hb hr hlocks hK hS dMo_sign_289 (mT, mS, mC, mL, mB, mD, mZ, mF, mU, mX, tx, mP, pn, hg1_286, kk1_286) hP hD (show r286 = (cmdA st c0 rg D lg).1 ∧ MA mT mS mC mL mB hg1_286 kk1_286 mF mU mX tx mP pn (cmdA st c0 rg D lg).2 from by rw [hcp, perf_e.2.2.2.2.2.2.2.1 (by omega)]; exact sca_e hMA0 (by omega) hq286)
              by_cases hs117_324 : c0 = 113
              · refine lv_lookup (off := 207) (tgt := 324) hx hb dMo_sign_117 (by decide) (by rw [iI_toInt ⟨by omega, by omega⟩]; show Op.lookupswitch.offset [(75, 152), (88, 190), (90, 173), (99, 130), (100, 117), (107, 167), (113, 207), (114, 91), (120, 214), (122, 137)] 220 c0 = 207; rw [hs117_324]; rfl) (by decide) ?_
                refine lv_aload_n hx hb dMo_sign_324 rfl (lv_at hl 2 rfl) ?_
                refine lv_iconst (v := iI 0) hx hb dMo_sign_325 rfl ?_
                refine va_put (D := (dC, dI)) (ci := 7) (v := .int (iI 0)) (ty := .int) (C := "MacroReckonerModel") (T := TMo) (N := 23) hx hb hts inMo tyMo tyMo_ok nmMo hown hK hP hD hS 0 rfl rfl 10 (by decide) (hts _ wt4_68) (fun _ h9 => h9) rfl (by decide +kernel) rfl rfl (Nat.le_of_ble_eq_true rfl) dMo_sign_326 (fun H locs hP hD hS => ?_)
                have hP : va_P (dC, dI) vwCl (wMo dA mo ft lf hg kk 0 pn tk fm tO tl mI mT mS mC mL mB mF mU mX mP mK mD mZ []) H := hP
                have hD : va_D A (wMo dA mo ft lf hg kk 0 pn tk fm tO tl mI mT mS mC mL mB mF mU mX mP mK mD mZ []) := hD
                refine lv_iconst (v := iI 0) hx hb dMo_sign_329 rfl ?_
                exact rt_i hx hb hr hlocks hK hS dMo_sign_330 (mT, mS, mC, mL, mB, mD, mZ, mF, mU, mX, 0, mP, pn, hg, kk) hP hD (show 0 = (cmdA st c0 rg D lg).1 ∧ MA mT mS mC mL mB hg kk mF mU mX 0 mP pn (cmdA st c0 rg D lg).2 from by rw [hcp, perf_e.2.2.2.2.2.2.2.2.2.2.2.2 (by omega)]; exact ⟨rfl, MH_c hMH rfl rfl rfl rfl, MX_0 rfl, MG_c hMG rfl rfl⟩)
              by_cases hs117_208 : c0 = 114
              · refine lv_lookup (off := 91) (tgt := 208) hx hb dMo_sign_117 (by decide) (by rw [iI_toInt ⟨by omega, by omega⟩]; show Op.lookupswitch.offset [(75, 152), (88, 190), (90, 173), (99, 130), (100, 117), (107, 167), (113, 207), (114, 91), (120, 214), (122, 137)] 220 c0 = 91; rw [hs117_208]; rfl) (by decide) ?_
                have hn2 : n9 = 2 := by unfold tkR at hq1; omega
                refine lv_aload_n hx hb dMo_sign_208 rfl (lv_at hl 2 rfl) ?_
                refine lv_bipush (v := iI 46) hx hb dMo_sign_209 (by decide) ?_
                refine lv_iload_n hx hb dMo_sign_211 rfl (lv_at hl 0 rfl) ?_
                refine cv_v (va_runV (C := "MacroReckonerModel") (As := [.int (iI 46), .int (iI (25 + hg))]) (rest := []) ⟨hx, hb, hml, hown, hts⟩ (cMo_move l dC dI dA mo ft lf hg kk tx pn tk fm tO tl mI mT mS mC mL mB mF mU mX mP mK mD mZ 46 (25 + hg) (by omega) (by exact hbo _ (by omega) (by omega)) H.size) (cwV 2 hts (gdV wt4_203 wt4_205 ws4_5 wt1_8 wt4_206) rfl rfl rfl ⟨rfl, by decide, by decide, by decide +kernel⟩ ⟨by decide, by decide⟩) (preV (q := ("MacroReckonerModel", TMo, 23)) hK hP hD hS hA XN_ok trivial [0, 1, 2, 3, 4, 5, 6, 7, 8, 9, 10, 11, 12, 13] rfl rfl 0 rfl rfl) rfl rfl hl.1 rfl (lv_room (Nat.le_of_ble_eq_true rfl)) dMo_sign_212 ⟨Nat.zero_le _, Nat.zero_le _⟩) hP hD hS hA [0, 1, 2, 3, 4, 5, 6, 7, 8, 9, 10, 11, 12, 13] [] rfl (fun v_ => wMo dA mo ft lf hg kk tx pn tk fm tO tl mI v_.1 v_.2.1 v_.2.2.1 v_.2.2.2.1 v_.2.2.2.2 mF mU mX mP mK mD mZ []) (fun _ => rfl) ([] : va_W) rfl (fun _ => rfl) [mo, mo + 1, mo + 2, mo + 3, mo + 4, mo + 5, mo + 6, mo + 7, mo + 8, mo + 9, mo + 10, mo + 11, mo + 12, mo + 13] rfl (fun _ => rfl) (fun _ => rfl) (fun u_ H locs hq212 hP hD hS => ?_)
                obtain ⟨T1_212, S1_212, C1_212, L1_212, B1_212⟩ := u_
                have hP : va_P (dC, dI) vwCl (wMo dA mo ft lf hg kk tx pn tk fm tO tl mI T1_212 S1_212 C1_212 L1_212 B1_212 mF mU mX mP mK mD mZ []) H := hP
                have hD : va_D A (wMo dA mo ft lf hg kk tx pn tk fm tO tl mI T1_212 S1_212 C1_212 L1_212 B1_212 mF mU mX mP mK mD mZ []) := hD
                have hq212 : (∀ a, MT mT mS mC mL mB (25 + hg) a → MT T1_212 S1_212 C1_212 L1_212 B1_212 46 a) ∧ thO mT mS mC mL mB T1_212 S1_212 C1_212 L1_212 B1_212 46 := hq212
                refine lv_aload_n hx hb dMo_sign_215 rfl (lv_at hl 2 rfl) ?_
                refine lv_iload_n hx hb dMo_sign_216 rfl (lv_at hl 0 rfl) ?_
                refine lv_iload_n hx hb dMo_sign_217 rfl (lv_at hl 0 rfl) ?_
                refine lv_iconst (v := iI 1) hx hb dMo_sign_218 rfl ?_
                refine iv_isub hx hb dMo_sign_219 ?_
                refine cv_v (va_runV (C := "MacroReckonerModel") (As := [.int (iI (25 + hg)), .int (iI ((25 + hg) - 1))]) (rest := []) ⟨hx, hb, hml, hown, hts⟩ (cMo_move l dC dI dA mo ft lf hg kk tx pn tk fm tO tl mI T1_212 S1_212 C1_212 L1_212 B1_212 mF mU mX mP mK mD mZ (25 + hg) ((25 + hg) - 1) (by omega) (by rw [(hq212.2.1 _ (show (25 : Int) + hg - 1 ≠ 46 by omega)).1]; exact hbo _ (by omega) (by omega)) H.size) (cwV 2 hts (gdV wt4_203 wt4_205 ws4_5 wt1_8 wt4_206) rfl rfl rfl ⟨rfl, by decide, by decide, by decide +kernel⟩ ⟨by decide, by decide⟩) (preV (q := ("MacroReckonerModel", TMo, 23)) hK hP hD hS hA XN_ok trivial [0, 1, 2, 3, 4, 5, 6, 7, 8, 9, 10, 11, 12, 13] rfl rfl 0 rfl rfl) rfl rfl hl.1 rfl (lv_room (Nat.le_of_ble_eq_true rfl)) dMo_sign_220 ⟨Nat.zero_le _, Nat.zero_le _⟩) hP hD hS hA [0, 1, 2, 3, 4, 5, 6, 7, 8, 9, 10, 11, 12, 13] [] rfl (fun v_ => wMo dA mo ft lf hg kk tx pn tk fm tO tl mI v_.1 v_.2.1 v_.2.2.1 v_.2.2.2.1 v_.2.2.2.2 mF mU mX mP mK mD mZ []) (fun _ => rfl) ([] : va_W) rfl (fun _ => rfl) [mo, mo + 1, mo + 2, mo + 3, mo + 4, mo + 5, mo + 6, mo + 7, mo + 8, mo + 9, mo + 10, mo + 11, mo + 12, mo + 13] rfl (fun _ => rfl) (fun _ => rfl) (fun u_ H locs hq220 hP hD hS => ?_)
                obtain ⟨T1_220, S1_220, C1_220, L1_220, B1_220⟩ := u_
                have hP : va_P (dC, dI) vwCl (wMo dA mo ft lf hg kk tx pn tk fm tO tl mI T1_220 S1_220 C1_220 L1_220 B1_220 mF mU mX mP mK mD mZ []) H := hP
                have hD : va_D A (wMo dA mo ft lf hg kk tx pn tk fm tO tl mI T1_220 S1_220 C1_220 L1_220 B1_220 mF mU mX mP mK mD mZ []) := hD
                have hq220 : (∀ a, MT T1_212 S1_212 C1_212 L1_212 B1_212 ((25 + hg) - 1) a → MT T1_220 S1_220 C1_220 L1_220 B1_220 (25 + hg) a) ∧ thO T1_212 S1_212 C1_212 L1_212 B1_212 T1_220 S1_220 C1_220 L1_220 B1_220 (25 + hg) := hq220
                refine lv_aload_n hx hb dMo_sign_223 rfl (lv_at hl 2 rfl) ?_
                refine lv_iload_n hx hb dMo_sign_224 rfl (lv_at hl 0 rfl) ?_
                refine lv_iconst (v := iI 1) hx hb dMo_sign_225 rfl ?_
                refine iv_isub hx hb dMo_sign_226 ?_
                refine lv_bipush (v := iI 46) hx hb dMo_sign_227 (by decide) ?_
                refine cv_v (va_runV (C := "MacroReckonerModel") (As := [.int (iI ((25 + hg) - 1)), .int (iI 46)]) (rest := []) ⟨hx, hb, hml, hown, hts⟩ (cMo_move l dC dI dA mo ft lf hg kk tx pn tk fm tO tl mI T1_220 S1_220 C1_220 L1_220 B1_220 mF mU mX mP mK mD mZ ((25 + hg) - 1) 46 (by omega) (by exact (MT_b (MT_o hq220.2 (by omega) (hq212.1 _ (MH_1 hMH (by omega))))).1) H.size) (cwV 2 hts (gdV wt4_203 wt4_205 ws4_5 wt1_8 wt4_206) rfl rfl rfl ⟨rfl, by decide, by decide, by decide +kernel⟩ ⟨by decide, by decide⟩) (preV (q := ("MacroReckonerModel", TMo, 23)) hK hP hD hS hA XN_ok trivial [0, 1, 2, 3, 4, 5, 6, 7, 8, 9, 10, 11, 12, 13] rfl rfl 0 rfl rfl) rfl rfl hl.1 rfl (lv_room (Nat.le_of_ble_eq_true rfl)) dMo_sign_229 ⟨Nat.zero_le _, Nat.zero_le _⟩) hP hD hS hA [0, 1, 2, 3, 4, 5, 6, 7, 8, 9, 10, 11, 12, 13] [] rfl (fun v_ => wMo dA mo ft lf hg kk tx pn tk fm tO tl mI v_.1 v_.2.1 v_.2.2.1 v_.2.2.2.1 v_.2.2.2.2 mF mU mX mP mK mD mZ []) (fun _ => rfl) ([] : va_W) rfl (fun _ => rfl) [mo, mo + 1, mo + 2, mo + 3, mo + 4, mo + 5, mo + 6, mo + 7, mo + 8, mo + 9, mo + 10, mo + 11, mo + 12, mo + 13] rfl (fun _ => rfl) (fun _ => rfl) (fun u_ H locs hq229 hP hD hS => ?_)
                obtain ⟨T1_229, S1_229, C1_229, L1_229, B1_229⟩ := u_
                have hP : va_P (dC, dI) vwCl (wMo dA mo ft lf hg kk tx pn tk fm tO tl mI T1_229 S1_229 C1_229 L1_229 B1_229 mF mU mX mP mK mD mZ []) H := hP
                have hD : va_D A (wMo dA mo ft lf hg kk tx pn tk fm tO tl mI T1_229 S1_229 C1_229 L1_229 B1_229 mF mU mX mP mK mD mZ []) := hD
                have hq229 : (∀ a, MT T1_220 S1_220 C1_220 L1_220 B1_220 46 a → MT T1_229 S1_229 C1_229 L1_229 B1_229 ((25 + hg) - 1) a) ∧ thO T1_220 S1_220 C1_220 L1_220 B1_220 T1_229 S1_229 C1_229 L1_229 B1_229 ((25 + hg) - 1) := hq229
                refine lv_iconst (v := iI 0) hx hb dMo_sign_232 rfl ?_
                exact rt_i hx hb hr hlocks hK hS dMo_sign_233 (T1_229, S1_229, C1_229, L1_229, B1_229, mD, mZ, mF, mU, mX, tx, mP, pn, hg, kk) hP hD (show 0 = (cmdA st c0 rg D lg).1 ∧ MA T1_229 S1_229 C1_229 L1_229 B1_229 hg kk mF mU mX tx mP pn (cmdA st c0 rg D lg).2 from by rw [hcp, perf_e.2.2.2.1 (by omega)]; exact ⟨rfl, MH_sw hMH (by omega) hq212.1 hq212.2 hq220.1 hq220.2 hq229.1 hq229.2, MX_c hMX rfl rfl rfl, MG_c hMG rfl rfl⟩)
              by_cases hs117_331 : c0 = 120
              · refine lv_lookup (off := 214) (tgt := 331) hx hb dMo_sign_117 (by decide) (by rw [iI_toInt ⟨by omega, by omega⟩]; show Op.lookupswitch.offset [(75, 152), (88, 190), (90, 173), (99, 130), (100, 117), (107, 167), (113, 207), (114, 91), (120, 214), (122, 137)] 220 c0 = 214; rw [hs117_331]; rfl) (by decide) ?_
                have hn2 : n9 = 1 := by unfold tkR at hq1; omega
                have hTy := MH_1 hMH (by omega)
                refine lv_aload_n hx hb dMo_sign_331 rfl (lv_at hl 2 rfl) ?_
                refine lv_iload_n hx hb dMo_sign_332 rfl (lv_at hl 0 rfl) ?_
                refine cv_i (va_runV (C := "MacroReckonerModel") (As := [.int (iI (25 + hg))]) (rest := []) ⟨hx, hb, hml, hown, hts⟩ (cMo_runTop l dC dI dA mo ft lf hg kk tx pn tk fm tO tl mI mT mS mC mL mB mF mU mX mP mK mD mZ (25 + hg) st (by omega) (by exact hTy) (by exact hMX) H.size) (cwV 1 hts (gdV wt5_77 wt5_79 ws6_0 wt1_8 wt5_80) rfl rfl rfl ⟨rfl, by decide, by decide, by decide +kernel⟩ ⟨by decide, by decide⟩) (preV (q := ("MacroReckonerModel", TMo, 23)) hK hP hD hS hA XN_ok trivial [0, 1, 2, 3, 4, 5, 6, 7, 8, 9, 10, 11, 12, 13] rfl rfl 0 rfl rfl) rfl rfl hl.1 rfl (lv_room (Nat.le_of_ble_eq_true rfl)) dMo_sign_333 ⟨Nat.zero_le _, Nat.zero_le _⟩) hP hD hS hA [0, 1, 2, 3, 4, 5, 6, 7, 8, 9, 10, 11, 12, 13] [] rfl (fun v_ => wMo dA mo ft lf v_.2.2.2.2 kk v_.2.2.2.1 pn tk fm tO tl mI mT mS mC mL mB v_.1 v_.2.1 v_.2.2.1 mP mK mD mZ []) (fun _ => rfl) ([] : va_W) rfl (fun _ => rfl) [mo, mo + 1, mo + 2, mo + 3, mo + 4, mo + 5, mo + 6, mo + 7, mo + 8, mo + 9, mo + 10, mo + 11, mo + 12, mo + 13] rfl (fun _ => rfl) (fun _ => rfl) (fun r333 u_ H locs hq333 hP hD hS => ?_)
                obtain ⟨F1_333, U1_333, X1_333, tx1_333, hg1_333⟩ := u_
                have hP : va_P (dC, dI) vwCl (wMo dA mo ft lf hg1_333 kk tx1_333 pn tk fm tO tl mI mT mS mC mL mB F1_333 U1_333 X1_333 mP mK mD mZ []) H := hP
                have hD : va_D A (wMo dA mo ft lf hg1_333 kk tx1_333 pn tk fm tO tl mI mT mS mC mL mB F1_333 U1_333 X1_333 mP mK mD mZ []) := hD
                have hq333 : r333 = (runA st).1 ∧ hg1_333 = (runA st).2.h ∧ MX F1_333 U1_333 X1_333 tx1_333 (runA st).2 := hq333
                exact rt_i hx hb hr hlocks hK hS dMo_sign_336 (mT, mS, mC, mL, mB, mD, mZ, F1_333, U1_333, X1_333, tx1_333, mP, pn, hg1_333, kk) hP hD (show r333 = (cmdA st c0 rg D lg).1 ∧ MA mT mS mC mL mB hg1_333 kk F1_333 U1_333 X1_333 tx1_333 mP pn (cmdA st c0 rg D lg).2 from by rw [hcp, perf_e.2.2.2.2.2.2.2.2.2.2.2.1 (by omega)]; have h := runA_k (st := st); rw [hq333.2.1]; exact ⟨hq333.1, MH_q hMH h.1 h.2.1 h.2.2.1 (by omega), hq333.2.2, MG_c hMG h.2.2.2.2.1 h.2.2.2.2.2.1⟩)
              by_cases hs117_254 : c0 = 122
              · refine lv_lookup (off := 137) (tgt := 254) hx hb dMo_sign_117 (by decide) (by rw [iI_toInt ⟨by omega, by omega⟩]; show Op.lookupswitch.offset [(75, 152), (88, 190), (90, 173), (99, 130), (100, 117), (107, 167), (113, 207), (114, 91), (120, 214), (122, 137)] 220 c0 = 137; rw [hs117_254]; rfl) (by decide) ?_
                refine lv_aload_n hx hb dMo_sign_254 rfl (lv_at hl 2 rfl) ?_
                refine lv_aload_n hx hb dMo_sign_255 rfl (lv_at hl 2 rfl) ?_
                refine va_get (D := (dC, dI)) (ci := 7) (v := .int (iI hg)) (C := "MacroReckonerModel") (T := TMo) (N := 23) hx hb hts inMo hown hK hP 0 rfl rfl 8 (by decide) (hts _ wt4_66) (fun _ h9 => h9) rfl dMo_sign_256 ?_
                refine cv_i (va_runV (C := "MacroReckonerModel") (As := [.int (iI hg)]) (rest := []) ⟨hx, hb, hml, hown, hts⟩ (cMo_makeSmall l dC dI dA mo ft lf hg kk tx pn tk fm tO tl mI mT mS mC mL mB mF mU mX mP mK mD mZ hg (by omega) H.size) (cwV 1 hts (gdV wt5_69 wt5_71 ws5_14 wt1_8 wt5_72) rfl rfl rfl ⟨rfl, by decide, by decide, by decide +kernel⟩ ⟨by decide, by decide⟩) (preV (q := ("MacroReckonerModel", TMo, 23)) hK hP hD hS hA XN_ok trivial [0, 1, 2, 3, 4, 5, 6, 7, 8, 9, 10, 11, 12, 13] rfl rfl 0 rfl rfl) rfl rfl hl.1 rfl (lv_room (Nat.le_of_ble_eq_true rfl)) dMo_sign_259 ⟨Nat.zero_le _, Nat.zero_le _⟩) hP hD hS hA [0, 1, 2, 3, 4, 5, 6, 7, 8, 9, 10, 11, 12, 13] [] rfl (fun v_ => wMo dA mo ft lf hg kk tx pn tk fm tO tl mI v_.1 v_.2.1 v_.2.2.1 v_.2.2.2.1 v_.2.2.2.2.1 mF mU mX mP mK v_.2.2.2.2.2.1 v_.2.2.2.2.2.2 []) (fun _ => rfl) ([] : va_W) rfl (fun _ => rfl) [mo, mo + 1, mo + 2, mo + 3, mo + 4, mo + 5, mo + 6, mo + 7, mo + 8, mo + 9, mo + 10, mo + 11, mo + 12, mo + 13] rfl (fun _ => rfl) (fun _ => rfl) (fun r259 u_ H locs hq259 hP hD hS => ?_)
                obtain ⟨T1_259, S1_259, C1_259, L1_259, B1_259, D1_259, Z1_259⟩ := u_
                have hP : va_P (dC, dI) vwCl (wMo dA mo ft lf hg kk tx pn tk fm tO tl mI T1_259 S1_259 C1_259 L1_259 B1_259 mF mU mX mP mK D1_259 Z1_259 []) H := hP
                have hD : va_D A (wMo dA mo ft lf hg kk tx pn tk fm tO tl mI T1_259 S1_259 C1_259 L1_259 B1_259 mF mU mX mP mK D1_259 Z1_259 []) := hD
                have hq259 : r259 = 0 ∧ MT T1_259 S1_259 C1_259 L1_259 B1_259 46 (mkN hg 0) ∧ thO mT mS mC mL mB T1_259 S1_259 C1_259 L1_259 B1_259 46 := hq259
                refine lv_pop hx hb dMo_sign_262 rfl ?_
                refine lv_aload_n hx hb dMo_sign_263 rfl (lv_at hl 2 rfl) ?_
                refine lv_iconst (v := iI 0) hx hb dMo_sign_264 rfl ?_
                refine cv_i (va_runV (C := "MacroReckonerModel") (As := [.int (iI 0)]) (rest := []) ⟨hx, hb, hml, hown, hts⟩ (cMo_put l dC dI dA mo ft lf hg kk tx pn tk fm tO tl mI T1_259 S1_259 C1_259 L1_259 B1_259 mF mU mX mP mK D1_259 Z1_259 0 (by omega) (by exact (MT_b hq259.2.1).1) H.size) (cwV 1 hts (gdV wt4_199 wt4_201 ws4_4 wt1_8 wt4_202) rfl rfl rfl ⟨rfl, by decide, by decide, by decide +kernel⟩ ⟨by decide, by decide⟩) (preV (q := ("MacroReckonerModel", TMo, 23)) hK hP hD hS hA XN_ok trivial [0, 1, 2, 3, 4, 5, 6, 7, 8, 9, 10, 11, 12, 13] rfl rfl 0 rfl rfl) rfl rfl hl.1 rfl (lv_room (Nat.le_of_ble_eq_true rfl)) dMo_sign_265 ⟨Nat.zero_le _, Nat.zero_le _⟩) hP hD hS hA [0, 1, 2, 3, 4, 5, 6, 7, 8, 9, 10, 11, 12, 13] [] rfl (fun v_ => wMo dA mo ft lf v_.2.2.2.2.2 kk tx pn tk fm tO tl mI v_.1 v_.2.1 v_.2.2.1 v_.2.2.2.1 v_.2.2.2.2.1 mF mU mX mP mK D1_259 Z1_259 []) (fun _ => rfl) ([] : va_W) rfl (fun _ => rfl) [mo, mo + 1, mo + 2, mo + 3, mo + 4, mo + 5, mo + 6, mo + 7, mo + 8, mo + 9, mo + 10, mo + 11, mo + 12, mo + 13] rfl (fun _ => rfl) (fun _ => rfl) (fun r265 u_ H locs hq265 hP hD hS => ?_)
                obtain ⟨T1_265, S1_265, C1_265, L1_265, B1_265, hg1_265⟩ := u_
                have hP : va_P (dC, dI) vwCl (wMo dA mo ft lf hg1_265 kk tx pn tk fm tO tl mI T1_265 S1_265 C1_265 L1_265 B1_265 mF mU mX mP mK D1_259 Z1_259 []) H := hP
                have hD : va_D A (wMo dA mo ft lf hg1_265 kk tx pn tk fm tO tl mI T1_265 S1_265 C1_265 L1_265 B1_265 mF mU mX mP mK D1_259 Z1_259 []) := hD
                have hq265 : putR r265 hg 0 hg1_265 T1_259 S1_259 C1_259 L1_259 B1_259 T1_265 S1_265 C1_265 L1_265 B1_265 := hq265
                exact rt_i hx hb hr hlocks hK hS dMo_sign_268 (T1_265, S1_265, C1_265, L1_265, B1_265, D1_259, Z1_259, mF, mU, mX, tx, mP, pn, hg1_265, kk) hP hD (show r265 = (cmdA st c0 rg D lg).1 ∧ MA T1_265 S1_265 C1_265 L1_265 B1_265 hg1_265 kk mF mU mX tx mP pn (cmdA st c0 rg D lg).2 from by rw [hcp, perf_e.2.2.2.2.2.1 (by omega)]; have h5 := hq259.2.1; rw [hh.1] at h5; have h6 := put_0 hq265 (MH_o hq259.2.2 hMH) h5; exact ⟨h6.1, h6.2, MX_push hMX, MG_push hMG⟩)
              refine lv_lookup (off := 220) (tgt := 337) hx hb dMo_sign_117 (by decide) (by rw [iI_toInt ⟨by omega, by omega⟩]; show Op.lookupswitch.offset [(75, 152), (88, 190), (90, 173), (99, 130), (100, 117), (107, 167), (113, 207), (114, 91), (120, 214), (122, 137)] 220 c0 = 220; simp only [Op.lookupswitch.offset_cons, Op.lookupswitch.offset_nil]; (first | rw [if_neg (by omega)] | simp); (first | rw [if_neg (by omega)] | simp); (first | rw [if_neg (by omega)] | simp); (first | rw [if_neg (by omega)] | simp); (first | rw [if_neg (by omega)] | simp); (first | rw [if_neg (by omega)] | simp); (first | rw [if_neg (by omega)] | simp); (first | rw [if_neg (by omega)] | simp); (first | rw [if_neg (by omega)] | simp); (first | rw [if_neg (by omega)] | simp)) (by decide) ?_
              have hc3 : (c0 = 112 ∧ n9 = 1) ∨ (c0 = 110 ∧ n9 = 1) ∨ (c0 = 102 ∧ n9 = 0) := by have h := (hrk.resolve_left (fun z => by omega)).2; unfold nums at h; unfold tkR at hq1; omega
              refine lv_aload_n hx hb dMo_sign_337 rfl (lv_at hl 2 rfl) ?_
              refine lv_iload_n hx hb dMo_sign_338 rfl (lv_at hl 3 rfl) ?_
              refine lv_iload_n hx hb dMo_sign_339 rfl (lv_at hl 0 rfl) ?_
              refine cv_i (va_runV (C := "MacroReckonerModel") (As := [.int (iI c0), .int (iI (25 + hg))]) (rest := []) ⟨hx, hb, hml, hown, hts⟩ (cMo_printSome l dC dI dA mo ft lf hg kk tx pn tk fm tO tl mI mT mS mC mL mB mF mU mX mP mK mD mZ c0 (25 + hg) st (by omega) (by omega) (by intro z; omega) (by exact hMH) (by exact hMG) H.size) (cwV 2 hts (gdV wt5_81 wt5_83 ws6_1 wt1_8 wt5_84) rfl rfl rfl ⟨rfl, by decide, by decide, by decide +kernel⟩ ⟨by decide, by decide⟩) (preV (q := ("MacroReckonerModel", TMo, 23)) hK hP hD hS hA XN_ok trivial [0, 1, 2, 3, 4, 5, 6, 7, 8, 9, 10, 11, 12, 13] rfl rfl 0 rfl rfl) rfl rfl hl.1 rfl (lv_room (Nat.le_of_ble_eq_true rfl)) dMo_sign_340 ⟨Nat.zero_le _, Nat.zero_le _⟩) hP hD hS hA [0, 1, 2, 3, 4, 5, 6, 7, 8, 9, 10, 11, 12, 13] [] rfl (fun v_ => wMo dA mo ft lf v_.2.2 kk tx v_.2.1 tk fm tO tl mI mT mS mC mL mB mF mU mX v_.1 mK mD mZ []) (fun _ => rfl) ([] : va_W) rfl (fun _ => rfl) [mo, mo + 1, mo + 2, mo + 3, mo + 4, mo + 5, mo + 6, mo + 7, mo + 8, mo + 9, mo + 10, mo + 11, mo + 12, mo + 13] rfl (fun _ => rfl) (fun _ => rfl) (fun r340 u_ H locs hq340 hP hD hS => ?_)
              obtain ⟨P1_340, pn1_340, hg1_340⟩ := u_
              have hP : va_P (dC, dI) vwCl (wMo dA mo ft lf hg1_340 kk tx pn1_340 tk fm tO tl mI mT mS mC mL mB mF mU mX P1_340 mK mD mZ []) H := hP
              have hD : va_D A (wMo dA mo ft lf hg1_340 kk tx pn1_340 tk fm tO tl mI mT mS mC mL mB mF mU mX P1_340 mK mD mZ []) := hD
              have hq340 : r340 = (prtA st c0).1 ∧ hg1_340 = (prtA st c0).2.h ∧ MG P1_340 pn1_340 (prtA st c0).2 := hq340
              exact rt_i hx hb hr hlocks hK hS dMo_sign_343 (mT, mS, mC, mL, mB, mD, mZ, mF, mU, mX, tx, P1_340, pn1_340, hg1_340, kk) hP hD (show r340 = (cmdA st c0 rg D lg).1 ∧ MA mT mS mC mL mB hg1_340 kk mF mU mX tx P1_340 pn1_340 (cmdA st c0 rg D lg).2 from by rw [hcp, perf_e.2.2.2.2.2.2.2.2.1 (by omega)]; have h := prtA_k (st := st) (c := c0) (by omega); rw [hq340.2.1]; exact ⟨hq340.1, MH_q hMH h.1 h.2.1 h.2.2.1 (by omega), MX_c hMX h.2.2.2.2.1 h.2.2.2.2.2.1 h.2.2.2.2.2.2.1, hq340.2.2⟩)
            · have hr2 : (rks c0 ∧ n9 = 2) ∨ (c0 = 118 ∧ n9 = 1) := by have h := (hrk.resolve_right (fun z => by omega)).2; unfold nums at h; unfold rks; unfold tkR at hq1; unfold prs at hnp; omega
              have hnt := nt_e hMH (n := n9) (by omega) (by rcases hq67 with ⟨-, w⟩ | ⟨w, -⟩; exact w; omega)
              have hn1 : 1 ≤ n9 := by omega
              have hTy := MH_1 hMH (by omega)
              have hTx := MH_t hMH (i := st.h - n9) (by omega) (by omega)
              rw [show 26 + (st.h - n9) = 25 + hg - n9 + 1 by omega] at hTx
              refine lv_aload_n hx hb dMo_sign_87 rfl (lv_at hl 2 rfl) ?_
              refine lv_iload_n hx hb dMo_sign_88 rfl (lv_at hl 3 rfl) ?_
              refine lv_iload_n hx hb dMo_sign_89 rfl (lv_at hl 0 rfl) ?_
              refine lv_iload_n hx hb dMo_sign_90 rfl (lv_at hl 1 rfl) ?_
              refine iv_isub hx hb dMo_sign_91 ?_
              refine lv_iconst (v := iI 1) hx hb dMo_sign_92 rfl ?_
              refine iv_iadd hx hb dMo_sign_93 ?_
              refine lv_iload_n hx hb dMo_sign_94 rfl (lv_at hl 0 rfl) ?_
              refine cv_i (va_runV (C := "MacroReckonerModel") (As := [.int (iI c0), .int (iI (((25 + hg) - n9) + 1)), .int (iI (25 + hg))]) (rest := []) ⟨hx, hb, hml, hown, hts⟩ (cMo_reckon l dC dI dA mo ft lf hg kk tx pn tk fm tO tl mI mT mS mC mL mB mF mU mX mP mK mD mZ c0 (((25 + hg) - n9) + 1) (25 + hg) (st.stk (st.h - n9)) (st.stk (st.h - 1)) (by unfold rks at hr2; omega) (by omega) (by exact hTx) (by exact hnt _ (by omega) (by omega)) (by exact hTy) (by exact hnt _ (by omega) (by omega)) (by omega) H.size) (cwV 3 hts (gdV wt5_5 wt5_7 ws4_14 wt1_8 wt5_8) rfl rfl rfl ⟨rfl, by decide, by decide, by decide +kernel⟩ ⟨by decide, by decide⟩) (preV (q := ("MacroReckonerModel", TMo, 23)) hK hP hD hS hA XN_ok trivial [0, 1, 2, 3, 4, 5, 6, 7, 8, 9, 10, 11, 12, 13] rfl rfl 0 rfl rfl) rfl rfl hl.1 rfl (lv_room (Nat.le_of_ble_eq_true rfl)) dMo_sign_95 ⟨Nat.zero_le _, Nat.zero_le _⟩) hP hD hS hA [0, 1, 2, 3, 4, 5, 6, 7, 8, 9, 10, 11, 12, 13] [] rfl (fun v_ => wMo dA mo ft lf hg kk tx pn tk fm tO tl mI v_.1 v_.2.1 v_.2.2.1 v_.2.2.2.1 v_.2.2.2.2.1 mF mU mX mP mK v_.2.2.2.2.2.1 v_.2.2.2.2.2.2 []) (fun _ => rfl) ([] : va_W) rfl (fun _ => rfl) [mo, mo + 1, mo + 2, mo + 3, mo + 4, mo + 5, mo + 6, mo + 7, mo + 8, mo + 9, mo + 10, mo + 11, mo + 12, mo + 13] rfl (fun _ => rfl) (fun _ => rfl) (fun b9 u_ H locs hq95 hP hD hS => ?_)
              obtain ⟨T1_95, S1_95, C1_95, L1_95, B1_95, D1_95, Z1_95⟩ := u_
              have hP : va_P (dC, dI) vwCl (wMo dA mo ft lf hg kk tx pn tk fm tO tl mI T1_95 S1_95 C1_95 L1_95 B1_95 mF mU mX mP mK D1_95 Z1_95 []) H := hP
              have hD : va_D A (wMo dA mo ft lf hg kk tx pn tk fm tO tl mI T1_95 S1_95 C1_95 L1_95 B1_95 mF mU mX mP mK D1_95 Z1_95 []) := hD
              have hq95 : rkR b9 (if c0 = 118 then rooA kk (st.stk (st.h - n9)) else rkA c0 kk (st.stk (st.h - n9)) (st.stk (st.h - 1))) T1_95 S1_95 C1_95 L1_95 B1_95 ∧ thO mT mS mC mL mB T1_95 S1_95 C1_95 L1_95 B1_95 46 := hq95
              have hMH2 := MH_o hq95.2 hMH
              have hbb := hq95.1.2.1
              have hbr := rk_lo hq95.1 hr2
              refine lv_istore (lv' := [(5, .int (iI b9)), (3, .int (iI (25 + hg))), (2, .int (iI n9)), (0, .ref mo), (1, .int (iI c0)), (4, .int (iI rk))]) hx hb dMo_sign_98 hl (by decide) rfl (fun ls hl => ?_)
              refine lv_iload hx hb dMo_sign_100 (lv_at hl 0 rfl) ?_
              refine iv_if_ge (tgt := 110) hx hb dMo_sign_102 (by decide) ⟨by omega, by omega⟩ (fun hc102 => ?_) (fun hc102 => ?_)
              · refine lv_aload_n hx hb dMo_sign_110 rfl (lv_at hl 3 rfl) ?_
                refine lv_iload_n hx hb dMo_sign_111 rfl (lv_at hl 2 rfl) ?_
                refine cv_i (va_runV (C := "MacroReckonerModel") (As := [.int (iI n9)]) (rest := []) ⟨hx, hb, hml, hown, hts⟩ (cMo_put l dC dI dA mo ft lf hg kk tx pn tk fm tO tl mI T1_95 S1_95 C1_95 L1_95 B1_95 mF mU mX mP mK D1_95 Z1_95 n9 (by omega) (by exact (MT_b (hq95.1.2.2 (by omega))).1) H.size) (cwV 1 hts (gdV wt4_199 wt4_201 ws4_4 wt1_8 wt4_202) rfl rfl rfl ⟨rfl, by decide, by decide, by decide +kernel⟩ ⟨by decide, by decide⟩) (preV (q := ("MacroReckonerModel", TMo, 23)) hK hP hD hS hA XN_ok trivial [0, 1, 2, 3, 4, 5, 6, 7, 8, 9, 10, 11, 12, 13] rfl rfl 0 rfl rfl) rfl rfl hl.1 rfl (lv_room (Nat.le_of_ble_eq_true rfl)) dMo_sign_112 ⟨Nat.zero_le _, Nat.zero_le _⟩) hP hD hS hA [0, 1, 2, 3, 4, 5, 6, 7, 8, 9, 10, 11, 12, 13] [] rfl (fun v_ => wMo dA mo ft lf v_.2.2.2.2.2 kk tx pn tk fm tO tl mI v_.1 v_.2.1 v_.2.2.1 v_.2.2.2.1 v_.2.2.2.2.1 mF mU mX mP mK D1_95 Z1_95 []) (fun _ => rfl) ([] : va_W) rfl (fun _ => rfl) [mo, mo + 1, mo + 2, mo + 3, mo + 4, mo + 5, mo + 6, mo + 7, mo + 8, mo + 9, mo + 10, mo + 11, mo + 12, mo + 13] rfl (fun _ => rfl) (fun _ => rfl) (fun r112 u_ H locs hq112 hP hD hS => ?_)
                obtain ⟨T1_112, S1_112, C1_112, L1_112, B1_112, hg1_112⟩ := u_
                have hP : va_P (dC, dI) vwCl (wMo dA mo ft lf hg1_112 kk tx pn tk fm tO tl mI T1_112 S1_112 C1_112 L1_112 B1_112 mF mU mX mP mK D1_95 Z1_95 []) H := hP
                have hD : va_D A (wMo dA mo ft lf hg1_112 kk tx pn tk fm tO tl mI T1_112 S1_112 C1_112 L1_112 B1_112 mF mU mX mP mK D1_95 Z1_95 []) := hD
                have hq112 : putR r112 hg n9 hg1_112 T1_95 S1_95 C1_95 L1_95 B1_95 T1_112 S1_112 C1_112 L1_112 B1_112 := hq112
                exact rt_i hx hb hr hlocks hK hS dMo_sign_115 (T1_112, S1_112, C1_112, L1_112, B1_112, D1_95, Z1_95, mF, mU, mX, tx, mP, pn, hg1_112, kk) hP hD (show r112 = (cmdA st c0 rg D lg).1 ∧ MA T1_112 S1_112 C1_112 L1_112 B1_112 hg1_112 kk mF mU mX tx mP pn (cmdA st c0 rg D lg).2 from by rw [hcp]; have h3 := hq95.1; rcases hr2 with ⟨h1, h2⟩ | ⟨h1, h2⟩; (rw [perf_e.1 h1]; rw [if_neg (by unfold rks at h1; omega), h2, hk9.1] at h3; (first | (rw [calc_f h3 (by omega)]; exact ⟨rfl, hMH2, hMX, hMG⟩) | (obtain ⟨h4, h5⟩ := calc_0 h3 (by omega); rw [h4]; rw [h2] at hq112; have h6 := put_n hq112 hMH2 h5 (by omega); exact ⟨h6.1, MH_v h6.2, MX_c hMX rfl rfl rfl, MG_c hMG rfl rfl⟩))); (rw [perf_e.2.1 h1]; rw [if_pos h1, h2, hk9.1] at h3; (first | (rw [sqr_f h3 (by omega)]; exact ⟨rfl, hMH2, hMX, hMG⟩) | (obtain ⟨h4, h5⟩ := sqr_0 h3 (by omega); rw [h4]; rw [h2] at hq112; have h6 := put_n hq112 hMH2 h5 (by omega); exact ⟨h6.1, MH_u h6.2, MX_c hMX rfl rfl rfl, MG_c hMG rfl rfl⟩))))
              · refine lv_iload hx hb dMo_sign_105 (lv_at hl 0 rfl) ?_
                refine lv_goto (tgt := 115) hx hb dMo_sign_107 (by decide) ?_
                exact rt_i hx hb hr hlocks hK hS dMo_sign_115 (T1_95, S1_95, C1_95, L1_95, B1_95, D1_95, Z1_95, mF, mU, mX, tx, mP, pn, hg, kk) hP hD (show b9 = (cmdA st c0 rg D lg).1 ∧ MA T1_95 S1_95 C1_95 L1_95 B1_95 hg kk mF mU mX tx mP pn (cmdA st c0 rg D lg).2 from by rw [hcp]; have h3 := hq95.1; rcases hr2 with ⟨h1, h2⟩ | ⟨h1, h2⟩; (rw [perf_e.1 h1]; rw [if_neg (by unfold rks at h1; omega), h2, hk9.1] at h3; (first | (rw [calc_f h3 (by omega)]; exact ⟨rfl, hMH2, hMX, hMG⟩) | (obtain ⟨h4, h5⟩ := calc_0 h3 (by omega); rw [h4]; rw [h2] at hq112; have h6 := put_n hq112 hMH2 h5 (by omega); exact ⟨h6.1, MH_v h6.2, MX_c hMX rfl rfl rfl, MG_c hMG rfl rfl⟩))); (rw [perf_e.2.1 h1]; rw [if_pos h1, h2, hk9.1] at h3; (first | (rw [sqr_f h3 (by omega)]; exact ⟨rfl, hMH2, hMX, hMG⟩) | (obtain ⟨h4, h5⟩ := sqr_0 h3 (by omega); rw [h4]; rw [h2] at hq112; have h6 := put_n hq112 hMH2 h5 (by omega); exact ⟨h6.1, MH_u h6.2, MX_c hMX rfl rfl rfl, MG_c hMG rfl rfl⟩))))
          · refine lv_bipush (v := iI (-3)) hx hb dMo_sign_73 (by decide) ?_
            exact rt_i hx hb hr hlocks hK hS dMo_sign_75 (mT, mS, mC, mL, mB, mD, mZ, mF, mU, mX, tx, mP, pn, hg, kk) hP hD (show (-3) = (cmdA st c0 rg D lg).1 ∧ MA mT mS mC mL mB hg kk mF mU mX tx mP pn (cmdA st c0 rg D lg).2 from by rw [cmd_t (by omega) (hrk.resolve_right (fun z => by omega)).2 (by rw [hne]; exact nt_x hMH (by omega) (by rcases hq67 with ⟨w, -⟩ | ⟨-, w⟩; omega; exact w))]; exact ⟨rfl, hMH, hMX, hMG⟩)
      refine iv_icmp_ne (tgt := 41) hx hb dMo_sign_32 (by decide) ⟨by omega, by omega⟩ ⟨by decide, by decide⟩ (fun hc32 => ?_) (fun hc32 => ?_)
      · refine lv_iload_n hx hb dMo_sign_41 rfl (lv_at hl 3 rfl) ?_
        refine lv_bipush (v := iI 118) hx hb dMo_sign_42 (by decide) ?_
        refine iv_icmp_eq (tgt := 53) hx hb dMo_sign_44 (by decide) ⟨by omega, by omega⟩ ⟨by decide, by decide⟩ (fun hc44 => ?_) (fun hc44 => ?_)
        · refine lv_iconst (v := iI 1) hx hb dMo_sign_53 rfl ?_
          refine lv_goto (tgt := 58) hx hb dMo_sign_54 (by decide) ?_
          refine lv_istore (lv' := [(4, .int (iI 1)), (3, .int (iI (25 + hg))), (2, .int (iI n9)), (0, .ref mo), (1, .int (iI c0))]) hx hb dMo_sign_58 hl (by decide) rfl (fun ls hl => ?_)
          exact J60 1 H locs ls (by unfold tkR at hq1; unfold prs at hnp; unfold nums; omega) hP hD hS (lv_sub hl [1, 2, 3, 4, 0] rfl)
        · refine lv_iload_n hx hb dMo_sign_47 rfl (lv_at hl 3 rfl) ?_
          refine lv_bipush (v := iI 107) hx hb dMo_sign_48 (by decide) ?_
          refine iv_icmp_ne (tgt := 57) hx hb dMo_sign_50 (by decide) ⟨by omega, by omega⟩ ⟨by decide, by decide⟩ (fun hc50 => ?_) (fun hc50 => ?_)
          · refine lv_iconst (v := iI 0) hx hb dMo_sign_57 rfl ?_
            refine lv_istore (lv' := [(4, .int (iI 0)), (3, .int (iI (25 + hg))), (2, .int (iI n9)), (0, .ref mo), (1, .int (iI c0))]) hx hb dMo_sign_58 hl (by decide) rfl (fun ls hl => ?_)
            exact J60 0 H locs ls (by unfold tkR at hq1; unfold prs at hnp; unfold nums; omega) hP hD hS (lv_sub hl [1, 2, 3, 4, 0] rfl)
          · refine lv_iconst (v := iI 1) hx hb dMo_sign_53 rfl ?_
            refine lv_goto (tgt := 58) hx hb dMo_sign_54 (by decide) ?_
            refine lv_istore (lv' := [(4, .int (iI 1)), (3, .int (iI (25 + hg))), (2, .int (iI n9)), (0, .ref mo), (1, .int (iI c0))]) hx hb dMo_sign_58 hl (by decide) rfl (fun ls hl => ?_)
            exact J60 1 H locs ls (by unfold tkR at hq1; unfold prs at hnp; unfold nums; omega) hP hD hS (lv_sub hl [1, 2, 3, 4, 0] rfl)
      · refine lv_iload_n hx hb dMo_sign_35 rfl (lv_at hl 3 rfl) ?_
        refine lv_bipush (v := iI 114) hx hb dMo_sign_36 (by decide) ?_
        refine iv_icmp_ne (tgt := 53) hx hb dMo_sign_38 (by decide) ⟨by omega, by omega⟩ ⟨by decide, by decide⟩ (fun hc38 => ?_) (fun hc38 => ?_)
        · refine lv_iconst (v := iI 1) hx hb dMo_sign_53 rfl ?_
          refine lv_goto (tgt := 58) hx hb dMo_sign_54 (by decide) ?_
          refine lv_istore (lv' := [(4, .int (iI 1)), (3, .int (iI (25 + hg))), (2, .int (iI n9)), (0, .ref mo), (1, .int (iI c0))]) hx hb dMo_sign_58 hl (by decide) rfl (fun ls hl => ?_)
          exact J60 1 H locs ls (by unfold tkR at hq1; unfold prs at hnp; unfold nums; omega) hP hD hS (lv_sub hl [1, 2, 3, 4, 0] rfl)
        · refine lv_iload_n hx hb dMo_sign_41 rfl (lv_at hl 3 rfl) ?_
          refine lv_bipush (v := iI 118) hx hb dMo_sign_42 (by decide) ?_
          refine iv_icmp_eq (tgt := 53) hx hb dMo_sign_44 (by decide) ⟨by omega, by omega⟩ ⟨by decide, by decide⟩ (fun hc44 => ?_) (fun hc44 => ?_)
          · refine lv_iconst (v := iI 1) hx hb dMo_sign_53 rfl ?_
            refine lv_goto (tgt := 58) hx hb dMo_sign_54 (by decide) ?_
            refine lv_istore (lv' := [(4, .int (iI 1)), (3, .int (iI (25 + hg))), (2, .int (iI n9)), (0, .ref mo), (1, .int (iI c0))]) hx hb dMo_sign_58 hl (by decide) rfl (fun ls hl => ?_)
            exact J60 1 H locs ls (by unfold tkR at hq1; unfold prs at hnp; unfold nums; omega) hP hD hS (lv_sub hl [1, 2, 3, 4, 0] rfl)
          · refine lv_iload_n hx hb dMo_sign_47 rfl (lv_at hl 3 rfl) ?_
            refine lv_bipush (v := iI 107) hx hb dMo_sign_48 (by decide) ?_
            refine iv_icmp_ne (tgt := 57) hx hb dMo_sign_50 (by decide) ⟨by omega, by omega⟩ ⟨by decide, by decide⟩ (fun hc50 => ?_) (fun hc50 => ?_)
            · refine lv_iconst (v := iI 0) hx hb dMo_sign_57 rfl ?_
              refine lv_istore (lv' := [(4, .int (iI 0)), (3, .int (iI (25 + hg))), (2, .int (iI n9)), (0, .ref mo), (1, .int (iI c0))]) hx hb dMo_sign_58 hl (by decide) rfl (fun ls hl => ?_)
              exact J60 0 H locs ls (by unfold tkR at hq1; unfold prs at hnp; unfold nums; omega) hP hD hS (lv_sub hl [1, 2, 3, 4, 0] rfl)
            · refine lv_iconst (v := iI 1) hx hb dMo_sign_53 rfl ?_
              refine lv_goto (tgt := 58) hx hb dMo_sign_54 (by decide) ?_
              refine lv_istore (lv' := [(4, .int (iI 1)), (3, .int (iI (25 + hg))), (2, .int (iI n9)), (0, .ref mo), (1, .int (iI c0))]) hx hb dMo_sign_58 hl (by decide) rfl (fun ls hl => ?_)
              exact J60 1 H locs ls (by unfold tkR at hq1; unfold prs at hnp; unfold nums; omega) hP hD hS (lv_sub hl [1, 2, 3, 4, 0] rfl)
    · refine lv_bipush (v := iI (-2)) hx hb dMo_sign_19 (by decide) ?_
      exact rt_i hx hb hr hlocks hK hS dMo_sign_21 (mT, mS, mC, mL, mB, mD, mZ, mF, mU, mX, tx, mP, pn, hg, kk) hP hD (show (-2) = (cmdA st c0 rg D lg).1 ∧ MA mT mS mC mL mB hg kk mF mU mX tx mP pn (cmdA st c0 rg D lg).2 from by rw [cmd_e (by omega)]; exact ⟨rfl, hMH, hMX, hMG⟩)
  · refine lv_iconst (v := iI (-1)) hx hb dMo_sign_9 rfl ?_
    exact rt_i hx hb hr hlocks hK hS dMo_sign_10 (mT, mS, mC, mL, mB, mD, mZ, mF, mU, mX, tx, mP, pn, hg, kk) hP hD (show (-1) = (cmdA st c0 rg D lg).1 ∧ MA mT mS mC mL mB hg kk mF mU mX tx mP pn (cmdA st c0 rg D lg).2 from by rw [cmd_b (show tkR c0 (-1) from (show n9 = -1 by omega) ▸ hq1) hnp h91.1 h91.2 (by omega)]; exact ⟨rfl, hMH, hMX, hMG⟩)

theorem dMo_pair_0 : decode prog_9_method_51_code 0 = .ok (.iload_n 2, 1) := by decide +kernel
theorem dMo_pair_1 : decode prog_9_method_51_code 1 = .ok (.bipush 97, 2) := by decide +kernel
theorem dMo_pair_3 : decode prog_9_method_51_code 3 = .ok (.isub, 1) := by decide +kernel
theorem dMo_pair_4 : decode prog_9_method_51_code 4 = .ok (.istore_n 3, 1) := by decide +kernel
theorem dMo_pair_5 : decode prog_9_method_51_code 5 = .ok (.iload_n 3, 1) := by decide +kernel
theorem dMo_pair_6 : decode prog_9_method_51_code 6 = .ok (.ifCond .lt 9, 3) := by decide +kernel
theorem dMo_pair_9 : decode prog_9_method_51_code 9 = .ok (.iload_n 3, 1) := by decide +kernel
theorem dMo_pair_10 : decode prog_9_method_51_code 10 = .ok (.bipush 25, 2) := by decide +kernel
theorem dMo_pair_12 : decode prog_9_method_51_code 12 = .ok (.if_icmp .le 5, 3) := by decide +kernel
theorem dMo_pair_15 : decode prog_9_method_51_code 15 = .ok (.iconst (-1), 1) := by decide +kernel
theorem dMo_pair_16 : decode prog_9_method_51_code 16 = .ok (.ireturn, 1) := by decide +kernel
theorem dMo_pair_17 : decode prog_9_method_51_code 17 = .ok (.bipush 25, 2) := by decide +kernel
theorem dMo_pair_19 : decode prog_9_method_51_code 19 = .ok (.aload_n 0, 1) := by decide +kernel
theorem dMo_pair_20 : decode prog_9_method_51_code 20 = .ok (.getfield 83, 3) := by decide +kernel
theorem dMo_pair_23 : decode prog_9_method_51_code 23 = .ok (.iadd, 1) := by decide +kernel
theorem dMo_pair_24 : decode prog_9_method_51_code 24 = .ok (.istore 4, 2) := by decide +kernel
theorem dMo_pair_26 : decode prog_9_method_51_code 26 = .ok (.iload_n 1, 1) := by decide +kernel
theorem dMo_pair_27 : decode prog_9_method_51_code 27 = .ok (.bipush 108, 2) := by decide +kernel
theorem dMo_pair_29 : decode prog_9_method_51_code 29 = .ok (.if_icmp .ne 16, 3) := by decide +kernel
theorem dMo_pair_32 : decode prog_9_method_51_code 32 = .ok (.aload_n 0, 1) := by decide +kernel
theorem dMo_pair_33 : decode prog_9_method_51_code 33 = .ok (.bipush 46, 2) := by decide +kernel
theorem dMo_pair_35 : decode prog_9_method_51_code 35 = .ok (.iload_n 3, 1) := by decide +kernel
theorem dMo_pair_36 : decode prog_9_method_51_code 36 = .ok (.invokevirtual 86, 3) := by decide +kernel
theorem dMo_pair_39 : decode prog_9_method_51_code 39 = .ok (.aload_n 0, 1) := by decide +kernel
theorem dMo_pair_40 : decode prog_9_method_51_code 40 = .ok (.iconst 0, 1) := by decide +kernel
theorem dMo_pair_41 : decode prog_9_method_51_code 41 = .ok (.invokevirtual 163, 3) := by decide +kernel
theorem dMo_pair_44 : decode prog_9_method_51_code 44 = .ok (.ireturn, 1) := by decide +kernel
theorem dMo_pair_45 : decode prog_9_method_51_code 45 = .ok (.aload_n 0, 1) := by decide +kernel
theorem dMo_pair_46 : decode prog_9_method_51_code 46 = .ok (.getfield 83, 3) := by decide +kernel
theorem dMo_pair_49 : decode prog_9_method_51_code 49 = .ok (.iload_n 1, 1) := by decide +kernel
theorem dMo_pair_50 : decode prog_9_method_51_code 50 = .ok (.bipush 115, 2) := by decide +kernel
theorem dMo_pair_52 : decode prog_9_method_51_code 52 = .ok (.if_icmp .ne 7, 3) := by decide +kernel
theorem dMo_pair_55 : decode prog_9_method_51_code 55 = .ok (.iconst 1, 1) := by decide +kernel
theorem dMo_pair_56 : decode prog_9_method_51_code 56 = .ok (.goto 4, 3) := by decide +kernel
theorem dMo_pair_59 : decode prog_9_method_51_code 59 = .ok (.iconst 2, 1) := by decide +kernel
theorem dMo_pair_60 : decode prog_9_method_51_code 60 = .ok (.if_icmp .ge 6, 3) := by decide +kernel
theorem dMo_pair_63 : decode prog_9_method_51_code 63 = .ok (.bipush (-2), 2) := by decide +kernel
theorem dMo_pair_65 : decode prog_9_method_51_code 65 = .ok (.ireturn, 1) := by decide +kernel
theorem dMo_pair_66 : decode prog_9_method_51_code 66 = .ok (.iload_n 1, 1) := by decide +kernel
theorem dMo_pair_67 : decode prog_9_method_51_code 67 = .ok (.bipush 115, 2) := by decide +kernel
theorem dMo_pair_69 : decode prog_9_method_51_code 69 = .ok (.if_icmp .ne 22, 3) := by decide +kernel
theorem dMo_pair_72 : decode prog_9_method_51_code 72 = .ok (.aload_n 0, 1) := by decide +kernel
theorem dMo_pair_73 : decode prog_9_method_51_code 73 = .ok (.iload_n 3, 1) := by decide +kernel
theorem dMo_pair_74 : decode prog_9_method_51_code 74 = .ok (.iload 4, 2) := by decide +kernel
theorem dMo_pair_76 : decode prog_9_method_51_code 76 = .ok (.invokevirtual 86, 3) := by decide +kernel
theorem dMo_pair_79 : decode prog_9_method_51_code 79 = .ok (.aload_n 0, 1) := by decide +kernel
theorem dMo_pair_80 : decode prog_9_method_51_code 80 = .ok (.dup, 1) := by decide +kernel
theorem dMo_pair_81 : decode prog_9_method_51_code 81 = .ok (.getfield 83, 3) := by decide +kernel
theorem dMo_pair_84 : decode prog_9_method_51_code 84 = .ok (.iconst 1, 1) := by decide +kernel
theorem dMo_pair_85 : decode prog_9_method_51_code 85 = .ok (.isub, 1) := by decide +kernel
theorem dMo_pair_86 : decode prog_9_method_51_code 86 = .ok (.putfield 83, 3) := by decide +kernel
theorem dMo_pair_89 : decode prog_9_method_51_code 89 = .ok (.iconst 0, 1) := by decide +kernel
theorem dMo_pair_90 : decode prog_9_method_51_code 90 = .ok (.ireturn, 1) := by decide +kernel
theorem dMo_pair_91 : decode prog_9_method_51_code 91 = .ok (.aload_n 0, 1) := by decide +kernel
theorem dMo_pair_92 : decode prog_9_method_51_code 92 = .ok (.iconst 2, 1) := by decide +kernel
theorem dMo_pair_93 : decode prog_9_method_51_code 93 = .ok (.invokevirtual 169, 3) := by decide +kernel
theorem dMo_pair_96 : decode prog_9_method_51_code 96 = .ok (.ifCond .ne 6, 3) := by decide +kernel
theorem dMo_pair_99 : decode prog_9_method_51_code 99 = .ok (.bipush (-3), 2) := by decide +kernel
theorem dMo_pair_101 : decode prog_9_method_51_code 101 = .ok (.ireturn, 1) := by decide +kernel
theorem dMo_pair_102 : decode prog_9_method_51_code 102 = .ok (.aload_n 0, 1) := by decide +kernel
theorem dMo_pair_103 : decode prog_9_method_51_code 103 = .ok (.iload 4, 2) := by decide +kernel
theorem dMo_pair_105 : decode prog_9_method_51_code 105 = .ok (.iload 4, 2) := by decide +kernel
theorem dMo_pair_107 : decode prog_9_method_51_code 107 = .ok (.iconst 1, 1) := by decide +kernel
theorem dMo_pair_108 : decode prog_9_method_51_code 108 = .ok (.isub, 1) := by decide +kernel
theorem dMo_pair_109 : decode prog_9_method_51_code 109 = .ok (.invokevirtual 214, 3) := by decide +kernel
theorem dMo_pair_112 : decode prog_9_method_51_code 112 = .ok (.istore 5, 2) := by decide +kernel
theorem dMo_pair_114 : decode prog_9_method_51_code 114 = .ok (.iload_n 1, 1) := by decide +kernel
theorem dMo_pair_115 : decode prog_9_method_51_code 115 = .ok (.bipush 60, 2) := by decide +kernel
theorem dMo_pair_117 : decode prog_9_method_51_code 117 = .ok (.if_icmp .ne 16, 3) := by decide +kernel
theorem dMo_pair_120 : decode prog_9_method_51_code 120 = .ok (.iload 5, 2) := by decide +kernel
theorem dMo_pair_122 : decode prog_9_method_51_code 122 = .ok (.ifCond .ge 7, 3) := by decide +kernel
theorem dMo_pair_125 : decode prog_9_method_51_code 125 = .ok (.iconst 1, 1) := by decide +kernel
theorem dMo_pair_126 : decode prog_9_method_51_code 126 = .ok (.goto 36, 3) := by decide +kernel
theorem dMo_pair_129 : decode prog_9_method_51_code 129 = .ok (.iconst 0, 1) := by decide +kernel
theorem dMo_pair_130 : decode prog_9_method_51_code 130 = .ok (.goto 32, 3) := by decide +kernel
theorem dMo_pair_133 : decode prog_9_method_51_code 133 = .ok (.iload_n 1, 1) := by decide +kernel
theorem dMo_pair_134 : decode prog_9_method_51_code 134 = .ok (.bipush 62, 2) := by decide +kernel
theorem dMo_pair_136 : decode prog_9_method_51_code 136 = .ok (.if_icmp .ne 16, 3) := by decide +kernel
theorem dMo_pair_139 : decode prog_9_method_51_code 139 = .ok (.iload 5, 2) := by decide +kernel
theorem dMo_pair_141 : decode prog_9_method_51_code 141 = .ok (.ifCond .le 7, 3) := by decide +kernel
theorem dMo_pair_144 : decode prog_9_method_51_code 144 = .ok (.iconst 1, 1) := by decide +kernel
theorem dMo_pair_145 : decode prog_9_method_51_code 145 = .ok (.goto 17, 3) := by decide +kernel
theorem dMo_pair_148 : decode prog_9_method_51_code 148 = .ok (.iconst 0, 1) := by decide +kernel
theorem dMo_pair_149 : decode prog_9_method_51_code 149 = .ok (.goto 13, 3) := by decide +kernel
theorem dMo_pair_152 : decode prog_9_method_51_code 152 = .ok (.iload 5, 2) := by decide +kernel
theorem dMo_pair_154 : decode prog_9_method_51_code 154 = .ok (.ifCond .ne 7, 3) := by decide +kernel
theorem dMo_pair_157 : decode prog_9_method_51_code 157 = .ok (.iconst 1, 1) := by decide +kernel
theorem dMo_pair_158 : decode prog_9_method_51_code 158 = .ok (.goto 4, 3) := by decide +kernel
theorem dMo_pair_161 : decode prog_9_method_51_code 161 = .ok (.iconst 0, 1) := by decide +kernel
theorem dMo_pair_162 : decode prog_9_method_51_code 162 = .ok (.istore 6, 2) := by decide +kernel
theorem dMo_pair_164 : decode prog_9_method_51_code 164 = .ok (.iload 6, 2) := by decide +kernel
theorem dMo_pair_166 : decode prog_9_method_51_code 166 = .ok (.ifCond .eq 11, 3) := by decide +kernel
theorem dMo_pair_169 : decode prog_9_method_51_code 169 = .ok (.aload_n 0, 1) := by decide +kernel
theorem dMo_pair_170 : decode prog_9_method_51_code 170 = .ok (.iload_n 3, 1) := by decide +kernel
theorem dMo_pair_171 : decode prog_9_method_51_code 171 = .ok (.invokevirtual 205, 3) := by decide +kernel
theorem dMo_pair_174 : decode prog_9_method_51_code 174 = .ok (.goto 4, 3) := by decide +kernel
theorem dMo_pair_177 : decode prog_9_method_51_code 177 = .ok (.iconst 0, 1) := by decide +kernel
theorem dMo_pair_178 : decode prog_9_method_51_code 178 = .ok (.istore 7, 2) := by decide +kernel
theorem dMo_pair_180 : decode prog_9_method_51_code 180 = .ok (.aload_n 0, 1) := by decide +kernel
theorem dMo_pair_181 : decode prog_9_method_51_code 181 = .ok (.iload 7, 2) := by decide +kernel
theorem dMo_pair_183 : decode prog_9_method_51_code 183 = .ok (.ifCond .ge 10, 3) := by decide +kernel
theorem dMo_pair_186 : decode prog_9_method_51_code 186 = .ok (.aload_n 0, 1) := by decide +kernel
theorem dMo_pair_187 : decode prog_9_method_51_code 187 = .ok (.getfield 83, 3) := by decide +kernel
theorem dMo_pair_190 : decode prog_9_method_51_code 190 = .ok (.goto 9, 3) := by decide +kernel
theorem dMo_pair_193 : decode prog_9_method_51_code 193 = .ok (.aload_n 0, 1) := by decide +kernel
theorem dMo_pair_194 : decode prog_9_method_51_code 194 = .ok (.getfield 83, 3) := by decide +kernel
theorem dMo_pair_197 : decode prog_9_method_51_code 197 = .ok (.iconst 2, 1) := by decide +kernel
theorem dMo_pair_198 : decode prog_9_method_51_code 198 = .ok (.isub, 1) := by decide +kernel
theorem dMo_pair_199 : decode prog_9_method_51_code 199 = .ok (.putfield 83, 3) := by decide +kernel
theorem dMo_pair_202 : decode prog_9_method_51_code 202 = .ok (.iload 7, 2) := by decide +kernel
theorem dMo_pair_204 : decode prog_9_method_51_code 204 = .ok (.ireturn, 1) := by decide +kernel
abbrev qMo_pair (dC : Nat → ClassId) (dI : Nat → Nat → Nat) (dA : Nat → ClassId) (mo : Nat) (ft : Int) (lf : Int) (hg : Int) (kk : Int) (tx : Int) (pn : Int) (tk : Int) (fm : Int) (tO : Int) (tl : Int) (mI : Int → Int) (mT : Int → Int) (mS : Int → Int) (mC : Int → Int) (mL : Int → Int) (mB : Int → Int) (mF : Int → Int) (mU : Int → Int) (mX : Int → Int) (mP : Int → Int) (mK : Int → Int) (mD : Int → Int) (mZ : Int → Int) (c0 : Int) (rc : Int) (D : Int → Int) (lg : Int) (st : AS) (A : Nat → Prop) : Array Value → State → Outcome → State → Prop := QI (dC, dI) vwCl (tyA dA) (fun (r : Int) (v_ : (Int → Int) × (Int → Int) × (Int → Int) × (Int → Int) × (Int → Int) × (Int → Int) × (Int → Int) × (Int → Int) × (Int → Int) × (Int → Int) × Int × Int) => (0 ≤ rc - 97 ∧ rc - 97 < 26 ∧ r = (cmdA st c0 (rc - 97) D lg).1 ∧ MA v_.1 v_.2.1 v_.2.2.1 v_.2.2.2.1 v_.2.2.2.2.1 v_.2.2.2.2.2.2.2.2.2.2.2 kk v_.2.2.2.2.2.2.2.1 v_.2.2.2.2.2.2.2.2.1 v_.2.2.2.2.2.2.2.2.2.1 v_.2.2.2.2.2.2.2.2.2.2.1 mP pn (cmdA st c0 (rc - 97) D lg).2) ∨ ((rc - 97 < 0 ∨ 26 ≤ rc - 97) ∧ r = -1 ∧ MA v_.1 v_.2.1 v_.2.2.1 v_.2.2.2.1 v_.2.2.2.2.1 v_.2.2.2.2.2.2.2.2.2.2.2 kk v_.2.2.2.2.2.2.2.1 v_.2.2.2.2.2.2.2.2.1 v_.2.2.2.2.2.2.2.2.2.1 v_.2.2.2.2.2.2.2.2.2.2.1 mP pn st)) (fun (v_ : (Int → Int) × (Int → Int) × (Int → Int) × (Int → Int) × (Int → Int) × (Int → Int) × (Int → Int) × (Int → Int) × (Int → Int) × (Int → Int) × Int × Int) => wMo dA mo ft lf v_.2.2.2.2.2.2.2.2.2.2.2 kk v_.2.2.2.2.2.2.2.2.2.2.1 pn tk fm tO tl mI v_.1 v_.2.1 v_.2.2.1 v_.2.2.2.1 v_.2.2.2.2.1 v_.2.2.2.2.2.2.2.1 v_.2.2.2.2.2.2.2.2.1 v_.2.2.2.2.2.2.2.2.2.1 mP mK v_.2.2.2.2.2.1 v_.2.2.2.2.2.2.1 []) A
abbrev rmMo_pair : Room := { frames := 3, cells := 0, slots := 0, locals := 68 }
set_option maxRecDepth 100000 in
set_option maxHeartbeats 1000000 in
theorem cMo_pair (l : Launch) (dC : Nat → ClassId) (dI : Nat → Nat → Nat) (dA : Nat → ClassId) (mo : Nat) (ft : Int) (lf : Int) (hg : Int) (kk : Int) (tx : Int) (pn : Int) (tk : Int) (fm : Int) (tO : Int) (tl : Int) (mI : Int → Int) (mT : Int → Int) (mS : Int → Int) (mC : Int → Int) (mL : Int → Int) (mB : Int → Int) (mF : Int → Int) (mU : Int → Int) (mX : Int → Int) (mP : Int → Int) (mK : Int → Int) (mD : Int → Int) (mZ : Int → Int) (c0 : Int) (rc : Int) (D : Int → Int) (lg : Int) (st : AS) (hMA : MA mT mS mC mL mB hg kk mF mU mX tx mP pn st) (hp0 : prs c0) (hrc : 0 ≤ rc ∧ rc < 65536) (sz : Nat) : Met l yMo_pair wsMo_pair rmMo_pair (PC (dC, dI) vwCl (tyA dA) XN [.ref mo, .int (iI c0), .int (iI rc)] (wMo dA mo ft lf hg kk tx pn tk fm tO tl mI mT mS mC mL mB mF mU mX mP mK mD mZ []) sz) (qMo_pair dC dI dA mo ft lf hg kk tx pn tk fm tO tl mI mT mS mC mL mB mF mU mX mP mK mD mZ c0 rc D lg st (va_A (wMo dA mo ft lf hg kk tx pn tk fm tO tl mI mT mS mC mL mB mF mU mX mP mK mD mZ []) sz)) 0 0 (va_A (wMo dA mo ft lf hg kk tx pn tk fm tO tl mI mT mS mC mL mB mF mU mX mP mK mD mZ []) sz) := by
  refine met_of (cc := prog_9_method_51_code) (maxL := 8) (ret := (some .int)) (Qc := qMo_pair dC dI dA mo ft lf hg kk tx pn tk fm tO tl mI mT mS mC mL mB mF mU mX mP mK mD mZ c0 rc D lg st) XN_ok (by decide) rfl (Nat.le_of_ble_eq_true rfl) ?_
  intro p e s m below meth c ls A hx hb hr hml hown hts hlocks hnm hK hP hD hA hX hS hl
  have hl : lv_has ls 8 [(0, .ref mo), (1, .int (iI c0)), (2, .int (iI rc))] := hl
  have hown : s.vm.findClass "MacroReckonerModel" = some m.cls := hown
  obtain ⟨H, hH⟩ : ∃ H : Heap, H = s.heap := ⟨_, rfl⟩
  obtain ⟨locs, hlo⟩ : ∃ L : List Loc, L = [] := ⟨_, rfl⟩
  have hP : va_P (dC, dI) vwCl (wMo dA mo ft lf hg kk tx pn tk fm tO tl mI mT mS mC mL mB mF mU mX mP mK mD mZ []) H := hH ▸ hP
  have hS : va_S A s.heap H locs := by rw [hH, hlo]; exact hS
  suffices hgo : W p l e rmMo_pair s m [.ref mo, .int (iI c0), .int (iI rc)].toArray below meth c H locs 0 0 (MQ below (qMo_pair dC dI dA mo ft lf hg kk tx pn tk fm tO tl mI mT mS mC mL mB mF mU mX mP mK mD mZ c0 rc D lg st A) [.ref mo, .int (iI c0), .int (iI rc)].toArray s 0 0 A) (F0 m 0 ls []) by rw [hH, hlo] at hgo; exact hgo
  clear hH hlo
  have hMA0 := hMA
  obtain ⟨hMH, hMX, hMG⟩ := hMA
  have hh := hMH.1
  have hk9 := hMH.2.1
  have hbo := MH_b hMH
  unfold prs at hp0
  refine lv_iload_n hx hb dMo_pair_0 rfl (lv_at hl 2 rfl) ?_
  refine lv_bipush (v := iI 97) hx hb dMo_pair_1 (by decide) ?_
  refine iv_isub hx hb dMo_pair_3 ?_
  refine lv_istore_n (lv' := [(3, .int (iI (rc - 97))), (0, .ref mo), (1, .int (iI c0)), (2, .int (iI rc))]) hx hb dMo_pair_4 rfl hl (by decide) rfl (fun ls hl => ?_)
  refine lv_iload_n hx hb dMo_pair_5 rfl (lv_at hl 0 rfl) ?_
  refine iv_if_lt (tgt := 15) hx hb dMo_pair_6 (by decide) ⟨by omega, by omega⟩ (fun hc6 => ?_) (fun hc6 => ?_)
  · refine lv_iconst (v := iI (-1)) hx hb dMo_pair_15 rfl ?_
    exact rt_i hx hb hr hlocks hK hS dMo_pair_16 (mT, mS, mC, mL, mB, mD, mZ, mF, mU, mX, tx, hg) hP hD (show (0 ≤ rc - 97 ∧ rc - 97 < 26 ∧ (-1) = (cmdA st c0 (rc - 97) D lg).1 ∧ MA mT mS mC mL mB hg kk mF mU mX tx mP pn (cmdA st c0 (rc - 97) D lg).2) ∨ ((rc - 97 < 0 ∨ 26 ≤ rc - 97) ∧ (-1) = -1 ∧ MA mT mS mC mL mB hg kk mF mU mX tx mP pn st) from by exact Or.inr ⟨by omega, rfl, hMA0⟩)
  · refine lv_iload_n hx hb dMo_pair_9 rfl (lv_at hl 0 rfl) ?_
    refine lv_bipush (v := iI 25) hx hb dMo_pair_10 (by decide) ?_
    refine iv_icmp_le (tgt := 17) hx hb dMo_pair_12 (by decide) ⟨by omega, by omega⟩ ⟨by decide, by decide⟩ (fun hc12 => ?_) (fun hc12 => ?_)
    · refine lv_bipush (v := iI 25) hx hb dMo_pair_17 (by decide) ?_
      refine lv_aload_n hx hb dMo_pair_19 rfl (lv_at hl 1 rfl) ?_
      refine va_get (D := (dC, dI)) (ci := 7) (v := .int (iI hg)) (C := "MacroReckonerModel") (T := TMo) (N := 23) hx hb hts inMo hown hK hP 0 rfl rfl 8 (by decide) (hts _ wt4_66) (fun _ h9 => h9) rfl dMo_pair_20 ?_
      refine iv_iadd hx hb dMo_pair_23 ?_
      refine lv_istore (lv' := [(4, .int (iI (25 + hg))), (3, .int (iI (rc - 97))), (0, .ref mo), (1, .int (iI c0)), (2, .int (iI rc))]) hx hb dMo_pair_24 hl (by decide) rfl (fun ls hl => ?_)
      refine lv_iload_n hx hb dMo_pair_26 rfl (lv_at hl 3 rfl) ?_
      refine lv_bipush (v := iI 108) hx hb dMo_pair_27 (by decide) ?_
      refine iv_icmp_ne (tgt := 45) hx hb dMo_pair_29 (by decide) ⟨by omega, by omega⟩ ⟨by decide, by decide⟩ (fun hc29 => ?_) (fun hc29 => ?_)
      · refine lv_aload_n hx hb dMo_pair_45 rfl (lv_at hl 2 rfl) ?_
        refine va_get (D := (dC, dI)) (ci := 7) (v := .int (iI hg)) (C := "MacroReckonerModel") (T := TMo) (N := 23) hx hb hts inMo hown hK hP 0 rfl rfl 8 (by decide) (hts _ wt4_66) (fun _ h9 => h9) rfl dMo_pair_46 ?_
        refine lv_iload_n hx hb dMo_pair_49 rfl (lv_at hl 3 rfl) ?_
        refine lv_bipush (v := iI 115) hx hb dMo_pair_50 (by decide) ?_
        refine iv_icmp_ne (tgt := 59) hx hb dMo_pair_52 (by decide) ⟨by omega, by omega⟩ ⟨by decide, by decide⟩ (fun hc52 => ?_) (fun hc52 => ?_)
        · refine lv_iconst (v := iI 2) hx hb dMo_pair_59 rfl ?_
          refine iv_icmp_ge (tgt := 66) hx hb dMo_pair_60 (by decide) ⟨by omega, by omega⟩ ⟨by decide, by decide⟩ (fun hc60 => ?_) (fun hc60 => ?_)
          · refine lv_iload_n hx hb dMo_pair_66 rfl (lv_at hl 3 rfl) ?_
            refine lv_bipush (v := iI 115) hx hb dMo_pair_67 (by decide) ?_
            refine iv_icmp_ne (tgt := 91) hx hb dMo_pair_69 (by decide) ⟨by omega, by omega⟩ ⟨by decide, by decide⟩ (fun hc69 => ?_) (fun hc69 => absurd hc69 (by omega))
            refine lv_aload_n hx hb dMo_pair_91 rfl (lv_at hl 2 rfl) ?_
            refine lv_iconst (v := iI 2) hx hb dMo_pair_92 rfl ?_
            refine cv_i (va_runV (C := "MacroReckonerModel") (As := [.int (iI 2)]) (rest := []) ⟨hx, hb, hml, hown, hts⟩ (cMo_areNumbers l dC dI dA mo ft lf hg kk tx pn tk fm tO tl mI mT mS mC mL mB mF mU mX mP mK mD mZ 2 (by omega) (by exact hbo) H.size) (cwV 1 hts (gdV wt4_215 wt4_217 ws4_8 wt1_8 wt4_218) rfl rfl rfl ⟨rfl, by decide, by decide, by decide +kernel⟩ ⟨by decide, by decide⟩) (preV (q := ("MacroReckonerModel", TMo, 23)) hK hP hD hS hA XN_ok trivial [0, 1, 2, 3, 4, 5, 6, 7, 8, 9, 10, 11, 12, 13] rfl rfl 0 rfl rfl) rfl rfl hl.1 rfl (lv_room (Nat.le_of_ble_eq_true rfl)) dMo_pair_93 ⟨Nat.zero_le _, Nat.zero_le _⟩) hP hD hS hA [0, 1, 2, 3, 4, 5, 6, 7, 8, 9, 10, 11, 12, 13] [] rfl (fun v_ => wMo dA mo ft lf hg kk tx pn tk fm tO tl mI mT mS mC mL mB mF mU mX mP mK mD mZ []) (fun _ => rfl) ([] : va_W) rfl (fun _ => rfl) [mo, mo + 1, mo + 2, mo + 3, mo + 4, mo + 5, mo + 6, mo + 7, mo + 8, mo + 9, mo + 10, mo + 11, mo + 12, mo + 13] rfl (fun _ => rfl) (fun _ => rfl) (fun r93 u_ H locs hq93 hP hD hS => ?_)
            have hP : va_P (dC, dI) vwCl (wMo dA mo ft lf hg kk tx pn tk fm tO tl mI mT mS mC mL mB mF mU mX mP mK mD mZ []) H := hP
            have hD : va_D A (wMo dA mo ft lf hg kk tx pn tk fm tO tl mI mT mS mC mL mB mF mU mX mP mK mD mZ []) := hD
            have hq93 : anR mT hg 2 r93 := hq93
            have hr93 : r93 = 0 ∨ r93 = 1 := by rcases hq93 with ⟨z, -⟩ | ⟨z, -⟩ <;> omega
            refine iv_if_ne (tgt := 102) hx hb dMo_pair_96 (by decide) ⟨by omega, by omega⟩ (fun hc96 => ?_) (fun hc96 => ?_)
            · have hnt := nt_e hMH (n := 2) (by omega) (by rcases hq93 with ⟨-, w⟩ | ⟨w, -⟩; exact w; omega)
              have hcp : cmdA st c0 (rc - 97) D lg = choA st c0 (rc - 97) := by rw [cmd_p (by rw [need_2 (by omega)]; omega) (fun z i x y => by rw [need_2 (by omega)] at x; have h := hnt i x y; omega), perf_p.2.2.2.2 (by omega)]
              have hT1 := MH_1 hMH (by omega)
              have hT2 := MH_2 hMH (by omega)
              refine lv_aload_n hx hb dMo_pair_102 rfl (lv_at hl 2 rfl) ?_
              refine lv_iload hx hb dMo_pair_103 (lv_at hl 0 rfl) ?_
              refine lv_iload hx hb dMo_pair_105 (lv_at hl 0 rfl) ?_
              refine lv_iconst (v := iI 1) hx hb dMo_pair_107 rfl ?_
              refine iv_isub hx hb dMo_pair_108 ?_
              refine cv_i (va_runV (C := "MacroReckonerModel") (As := [.int (iI (25 + hg)), .int (iI ((25 + hg) - 1))]) (rest := []) ⟨hx, hb, hml, hown, hts⟩ (cMo_order l dC dI dA mo ft lf hg kk tx pn tk fm tO tl mI mT mS mC mL mB mF mU mX mP mK mD mZ (25 + hg) ((25 + hg) - 1) (st.stk (st.h - 1)) (st.stk (st.h - 2)) (by omega) (by exact hT1) (by exact hnt _ (by omega) (by omega)) (by exact hT2) (by exact hnt _ (by omega) (by omega)) H.size) (cwV 2 hts (gdV wt4_219 wt4_221 ws4_9 wt1_8 wt4_222) rfl rfl rfl ⟨rfl, by decide, by decide, by decide +kernel⟩ ⟨by decide, by decide⟩) (preV (q := ("MacroReckonerModel", TMo, 23)) hK hP hD hS hA XN_ok trivial [0, 1, 2, 3, 4, 5, 6, 7, 8, 9, 10, 11, 12, 13] rfl rfl 0 rfl rfl) rfl rfl hl.1 rfl (lv_room (Nat.le_of_ble_eq_true rfl)) dMo_pair_109 ⟨Nat.zero_le _, Nat.zero_le _⟩) hP hD hS hA [0, 1, 2, 3, 4, 5, 6, 7, 8, 9, 10, 11, 12, 13] [] rfl (fun v_ => wMo dA mo ft lf hg kk tx pn tk fm tO tl mI mT mS mC mL mB mF mU mX mP mK v_.1 v_.2 []) (fun _ => rfl) ([] : va_W) rfl (fun _ => rfl) [mo, mo + 1, mo + 2, mo + 3, mo + 4, mo + 5, mo + 6, mo + 7, mo + 8, mo + 9, mo + 10, mo + 11, mo + 12, mo + 13] rfl (fun _ => rfl) (fun _ => rfl) (fun o9 u_ H locs hq109 hP hD hS => ?_)
              obtain ⟨D1_109, Z1_109⟩ := u_
              have hP : va_P (dC, dI) vwCl (wMo dA mo ft lf hg kk tx pn tk fm tO tl mI mT mS mC mL mB mF mU mX mP mK D1_109 Z1_109 []) H := hP
              have hD : va_D A (wMo dA mo ft lf hg kk tx pn tk fm tO tl mI mT mS mC mL mB mF mU mX mP mK D1_109 Z1_109 []) := hD
              have hq109 : (((st.stk (st.h - 1)).v * PW 10 (max (st.stk (st.h - 1)).sc (st.stk (st.h - 2)).sc - (st.stk (st.h - 1)).sc) < (st.stk (st.h - 2)).v * PW 10 (max (st.stk (st.h - 1)).sc (st.stk (st.h - 2)).sc - (st.stk (st.h - 2)).sc) ∧ o9 < 0) ∨ ((st.stk (st.h - 1)).v * PW 10 (max (st.stk (st.h - 1)).sc (st.stk (st.h - 2)).sc - (st.stk (st.h - 1)).sc) = (st.stk (st.h - 2)).v * PW 10 (max (st.stk (st.h - 1)).sc (st.stk (st.h - 2)).sc - (st.stk (st.h - 2)).sc) ∧ o9 = 0) ∨ ((st.stk (st.h - 2)).v * PW 10 (max (st.stk (st.h - 1)).sc (st.stk (st.h - 2)).sc - (st.stk (st.h - 2)).sc) < (st.stk (st.h - 1)).v * PW 10 (max (st.stk (st.h - 1)).sc (st.stk (st.h - 2)).sc - (st.stk (st.h - 1)).sc) ∧ 0 < o9)) ∧ -400 ≤ o9 ∧ o9 ≤ 400 := hq109
              refine lv_istore (lv' := [(5, .int (iI o9)), (4, .int (iI (25 + hg))), (3, .int (iI (rc - 97))), (0, .ref mo), (1, .int (iI c0)), (2, .int (iI rc))]) hx hb dMo_pair_112 hl (by decide) rfl (fun ls hl => ?_)
              have hho := hold_e (c := c0) (by omega) hq109
              refine lv_iload_n hx hb dMo_pair_114 rfl (lv_at hl 4 rfl) ?_
              refine lv_bipush (v := iI 60) hx hb dMo_pair_115 (by decide) ?_
              have J164 : ∀ (rn : Int) (H : Heap) (locs : List Loc) (ls : Array Slot), ((rn = 1 ∧ holdsA c0 (st.stk (st.h - 1)) (st.stk (st.h - 2))) ∨ (rn = 0 ∧ ¬ holdsA c0 (st.stk (st.h - 1)) (st.stk (st.h - 2)))) → va_P (dC, dI) vwCl (wMo dA mo ft lf hg kk tx pn tk fm tO tl mI mT mS mC mL mB mF mU mX mP mK D1_109 Z1_109 []) H → va_D A (wMo dA mo ft lf hg kk tx pn tk fm tO tl mI mT mS mC mL mB mF mU mX mP mK D1_109 Z1_109 []) → va_S A s.heap H locs → lv_has ls 8 [(5, .int (iI o9)), (4, .int (iI (25 + hg))), (3, .int (iI (rc - 97))), (0, .ref mo), (1, .int (iI c0)), (2, .int (iI rc)), (6, .int (iI rn))] → W p l e rmMo_pair s m [.ref mo, .int (iI c0), .int (iI rc)].toArray below meth c H locs 0 0 (MQ below (qMo_pair dC dI dA mo ft lf hg kk tx pn tk fm tO tl mI mT mS mC mL mB mF mU mX mP mK mD mZ c0 rc D lg st A) [.ref mo, .int (iI c0), .int (iI rc)].toArray s 0 0 A) (F0 m 164 ls []) := by
                intro rn H locs ls hrn hP hD hS hl
                have hrb : rn = 0 ∨ rn = 1 := by rcases hrn with ⟨z, -⟩ | ⟨z, -⟩ <;> omega
                refine lv_iload hx hb dMo_pair_164 (lv_at hl 6 rfl) ?_
                refine iv_if_eq (tgt := 177) hx hb dMo_pair_166 (by decide) ⟨by omega, by omega⟩ (fun hc166 => ?_) (fun hc166 => ?_)
                · refine lv_iconst (v := iI 0) hx hb dMo_pair_177 rfl ?_
                  refine lv_istore (lv' := [(7, .int (iI 0)), (5, .int (iI o9)), (4, .int (iI (25 + hg))), (3, .int (iI (rc - 97))), (0, .ref mo), (1, .int (iI c0)), (2, .int (iI rc)), (6, .int (iI rn))]) hx hb dMo_pair_178 hl (by decide) rfl (fun ls hl => ?_)
                  refine lv_aload_n hx hb dMo_pair_180 rfl (lv_at hl 4 rfl) ?_
                  refine lv_iload hx hb dMo_pair_181 (lv_at hl 0 rfl) ?_
                  refine iv_if_ge (tgt := 193) hx hb dMo_pair_183 (by decide) ⟨by decide, by decide⟩ (fun hc183 => ?_) (fun hc183 => absurd hc183 (by omega))
                  refine lv_aload_n hx hb dMo_pair_193 rfl (lv_at hl 4 rfl) ?_
                  refine va_get (D := (dC, dI)) (ci := 7) (v := .int (iI hg)) (C := "MacroReckonerModel") (T := TMo) (N := 23) hx hb hts inMo hown hK hP 0 rfl rfl 8 (by decide) (hts _ wt4_66) (fun _ h9 => h9) rfl dMo_pair_194 ?_
                  refine lv_iconst (v := iI 2) hx hb dMo_pair_197 rfl ?_
                  refine iv_isub hx hb dMo_pair_198 ?_
                  refine va_put (D := (dC, dI)) (ci := 7) (v := .int (iI (hg - 2))) (ty := .int) (C := "MacroReckonerModel") (T := TMo) (N := 23) hx hb hts inMo tyMo tyMo_ok nmMo hown hK hP hD hS 0 rfl rfl 8 (by decide) (hts _ wt4_66) (fun _ h9 => h9) rfl (by decide +kernel) rfl rfl (Nat.le_of_ble_eq_true rfl) dMo_pair_199 (fun H locs hP hD hS => ?_)
                  have hP : va_P (dC, dI) vwCl (wMo dA mo ft lf (hg - 2) kk tx pn tk fm tO tl mI mT mS mC mL mB mF mU mX mP mK D1_109 Z1_109 []) H := hP
                  have hD : va_D A (wMo dA mo ft lf (hg - 2) kk tx pn tk fm tO tl mI mT mS mC mL mB mF mU mX mP mK D1_109 Z1_109 []) := hD
                  refine lv_iload hx hb dMo_pair_202 (lv_at hl 0 rfl) ?_
                  exact rt_i hx hb hr hlocks hK hS dMo_pair_204 (mT, mS, mC, mL, mB, D1_109, Z1_109, mF, mU, mX, tx, hg - 2) hP hD (show (0 ≤ rc - 97 ∧ rc - 97 < 26 ∧ 0 = (cmdA st c0 (rc - 97) D lg).1 ∧ MA mT mS mC mL mB (hg - 2) kk mF mU mX tx mP pn (cmdA st c0 (rc - 97) D lg).2) ∨ ((rc - 97 < 0 ∨ 26 ≤ rc - 97) ∧ 0 = -1 ∧ MA mT mS mC mL mB (hg - 2) kk mF mU mX tx mP pn st) from by refine Or.inl ⟨by omega, by omega, ?_⟩; rw [hcp]; first | (have hx9 := (hrn.resolve_left (fun z => by omega)).2; rw [cho_n hx9]; exact ⟨rfl, MH_c (MH_h hMH (show 0 ≤ hg - 2 ∧ hg - 2 ≤ hg by omega)) (by show st.h - 2 = hg - 2; omega) rfl rfl rfl, MX_c hMX rfl rfl rfl, MG_c hMG rfl rfl⟩) | (have hx9 := (hrn.resolve_right (fun z => by omega)).2; have hbz : (begA st (st.reg (rc - 97))).1 ≠ 0 := (by have h := hq171.1; omega); have h := cho_f (c := c0) hx9 hbz; rw [h.1]; have h2 := hq171.2; rw [h.2] at h2; exact ⟨hq171.1, MH_c (MH_o thO_r hMH) rfl rfl rfl rfl, h2, hMG⟩) | (have hx9 := (hrn.resolve_right (fun z => by omega)).2; rw [cho_0 hx9 (by have h := hq171.1; omega)]; exact ⟨by omega, MH_c (MH_h hMH (show 0 ≤ hg - 2 ∧ hg - 2 ≤ hg by omega)) (by show st.h - 2 = hg - 2; omega) hbk.2.1 hbk.2.2.1 hbk.2.2.2.1, MX_c hq171.2 rfl rfl rfl, MG_c hMG hbk.2.2.2.2.2.2.1 hbk.2.2.2.2.2.2.2⟩))
                · refine lv_aload_n hx hb dMo_pair_169 rfl (lv_at hl 3 rfl) ?_
                  refine lv_iload_n hx hb dMo_pair_170 rfl (lv_at hl 2 rfl) ?_
                  refine cv_i (va_runV (C := "MacroReckonerModel") (As := [.int (iI (rc - 97))]) (rest := []) ⟨hx, hb, hml, hown, hts⟩ (cMo_begin l dC dI dA mo ft lf hg kk tx pn tk fm tO tl mI mT mS mC mL mB mF mU mX mP mK D1_109 Z1_109 (rc - 97) (st.reg (rc - 97)) st (by omega) (by exact hMH.2.2.1 _ (by omega) (by omega)) (by exact hMX) H.size) (cwV 1 hts (gdV wt4_234 wt4_236 ws4_12 wt1_8 wt4_237) rfl rfl rfl ⟨rfl, by decide, by decide, by decide +kernel⟩ ⟨by decide, by decide⟩) (preV (q := ("MacroReckonerModel", TMo, 23)) hK hP hD hS hA XN_ok trivial [0, 1, 2, 3, 4, 5, 6, 7, 8, 9, 10, 11, 12, 13] rfl rfl 0 rfl rfl) rfl rfl hl.1 rfl (lv_room (Nat.le_of_ble_eq_true rfl)) dMo_pair_171 ⟨Nat.zero_le _, Nat.zero_le _⟩) hP hD hS hA [0, 1, 2, 3, 4, 5, 6, 7, 8, 9, 10, 11, 12, 13] [] rfl (fun v_ => wMo dA mo ft lf hg kk v_.2.2.2 pn tk fm tO tl mI mT mS mC mL mB v_.1 v_.2.1 v_.2.2.1 mP mK D1_109 Z1_109 []) (fun _ => rfl) ([] : va_W) rfl (fun _ => rfl) [mo, mo + 1, mo + 2, mo + 3, mo + 4, mo + 5, mo + 6, mo + 7, mo + 8, mo + 9, mo + 10, mo + 11, mo + 12, mo + 13] rfl (fun _ => rfl) (fun _ => rfl) (fun b9 u_ H locs hq171 hP hD hS => ?_)
                  obtain ⟨F1_171, U1_171, X1_171, tx1_171⟩ := u_
                  have hP : va_P (dC, dI) vwCl (wMo dA mo ft lf hg kk tx1_171 pn tk fm tO tl mI mT mS mC mL mB F1_171 U1_171 X1_171 mP mK D1_109 Z1_109 []) H := hP
                  have hD : va_D A (wMo dA mo ft lf hg kk tx1_171 pn tk fm tO tl mI mT mS mC mL mB F1_171 U1_171 X1_171 mP mK D1_109 Z1_109 []) := hD
                  have hq171 : b9 = (begA st (st.reg (rc - 97))).1 ∧ MX F1_171 U1_171 X1_171 tx1_171 (begA st (st.reg (rc - 97))).2 := hq171
                  have hbc := begA_c (st := st) (a := st.reg (rc - 97))
                  have hrb9 : b9 = 0 ∨ b9 = -9 := by have h := hq171.1; omega
                  have hbk := begA_k (st := st) (a := st.reg (rc - 97))
                  refine lv_goto (tgt := 178) hx hb dMo_pair_174 (by decide) ?_
                  refine lv_istore (lv' := [(7, .int (iI b9)), (5, .int (iI o9)), (4, .int (iI (25 + hg))), (3, .int (iI (rc - 97))), (0, .ref mo), (1, .int (iI c0)), (2, .int (iI rc)), (6, .int (iI rn))]) hx hb dMo_pair_178 hl (by decide) rfl (fun ls hl => ?_)
                  refine lv_aload_n hx hb dMo_pair_180 rfl (lv_at hl 4 rfl) ?_
                  refine lv_iload hx hb dMo_pair_181 (lv_at hl 0 rfl) ?_
                  refine iv_if_ge (tgt := 193) hx hb dMo_pair_183 (by decide) ⟨by omega, by omega⟩ (fun hc183 => ?_) (fun hc183 => ?_)
                  · refine lv_aload_n hx hb dMo_pair_193 rfl (lv_at hl 4 rfl) ?_
                    refine va_get (D := (dC, dI)) (ci := 7) (v := .int (iI hg)) (C := "MacroReckonerModel") (T := TMo) (N := 23) hx hb hts inMo hown hK hP 0 rfl rfl 8 (by decide) (hts _ wt4_66) (fun _ h9 => h9) rfl dMo_pair_194 ?_
                    refine lv_iconst (v := iI 2) hx hb dMo_pair_197 rfl ?_
                    refine iv_isub hx hb dMo_pair_198 ?_
                    refine va_put (D := (dC, dI)) (ci := 7) (v := .int (iI (hg - 2))) (ty := .int) (C := "MacroReckonerModel") (T := TMo) (N := 23) hx hb hts inMo tyMo tyMo_ok nmMo hown hK hP hD hS 0 rfl rfl 8 (by decide) (hts _ wt4_66) (fun _ h9 => h9) rfl (by decide +kernel) rfl rfl (Nat.le_of_ble_eq_true rfl) dMo_pair_199 (fun H locs hP hD hS => ?_)
                    have hP : va_P (dC, dI) vwCl (wMo dA mo ft lf (hg - 2) kk tx1_171 pn tk fm tO tl mI mT mS mC mL mB F1_171 U1_171 X1_171 mP mK D1_109 Z1_109 []) H := hP
                    have hD : va_D A (wMo dA mo ft lf (hg - 2) kk tx1_171 pn tk fm tO tl mI mT mS mC mL mB F1_171 U1_171 X1_171 mP mK D1_109 Z1_109 []) := hD
                    refine lv_iload hx hb dMo_pair_202 (lv_at hl 0 rfl) ?_
                    exact rt_i hx hb hr hlocks hK hS dMo_pair_204 (mT, mS, mC, mL, mB, D1_109, Z1_109, F1_171, U1_171, X1_171, tx1_171, hg - 2) hP hD (show (0 ≤ rc - 97 ∧ rc - 97 < 26 ∧ b9 = (cmdA st c0 (rc - 97) D lg).1 ∧ MA mT mS mC mL mB (hg - 2) kk F1_171 U1_171 X1_171 tx1_171 mP pn (cmdA st c0 (rc - 97) D lg).2) ∨ ((rc - 97 < 0 ∨ 26 ≤ rc - 97) ∧ b9 = -1 ∧ MA mT mS mC mL mB (hg - 2) kk F1_171 U1_171 X1_171 tx1_171 mP pn st) from by refine Or.inl ⟨by omega, by omega, ?_⟩; rw [hcp]; first | (have hx9 := (hrn.resolve_left (fun z => by omega)).2; rw [cho_n hx9]; exact ⟨rfl, MH_c (MH_h hMH (show 0 ≤ hg - 2 ∧ hg - 2 ≤ hg by omega)) (by show st.h - 2 = hg - 2; omega) rfl rfl rfl, MX_c hMX rfl rfl rfl, MG_c hMG rfl rfl⟩) | (have hx9 := (hrn.resolve_right (fun z => by omega)).2; have hbz : (begA st (st.reg (rc - 97))).1 ≠ 0 := (by have h := hq171.1; omega); have h := cho_f (c := c0) hx9 hbz; rw [h.1]; have h2 := hq171.2; rw [h.2] at h2; exact ⟨hq171.1, MH_c (MH_o thO_r hMH) rfl rfl rfl rfl, h2, hMG⟩) | (have hx9 := (hrn.resolve_right (fun z => by omega)).2; rw [cho_0 hx9 (by have h := hq171.1; omega)]; exact ⟨by omega, MH_c (MH_h hMH (show 0 ≤ hg - 2 ∧ hg - 2 ≤ hg by omega)) (by show st.h - 2 = hg - 2; omega) hbk.2.1 hbk.2.2.1 hbk.2.2.2.1, MX_c hq171.2 rfl rfl rfl, MG_c hMG hbk.2.2.2.2.2.2.1 hbk.2.2.2.2.2.2.2⟩))
                  · refine lv_aload_n hx hb dMo_pair_186 rfl (lv_at hl 4 rfl) ?_
                    refine va_get (D := (dC, dI)) (ci := 7) (v := .int (iI hg)) (C := "MacroReckonerModel") (T := TMo) (N := 23) hx hb hts inMo hown hK hP 0 rfl rfl 8 (by decide) (hts _ wt4_66) (fun _ h9 => h9) rfl dMo_pair_187 ?_
                    refine lv_goto (tgt := 199) hx hb dMo_pair_190 (by decide) ?_
                    refine va_put (D := (dC, dI)) (ci := 7) (v := .int (iI hg)) (ty := .int) (C := "MacroReckonerModel") (T := TMo) (N := 23) hx hb hts inMo tyMo tyMo_ok nmMo hown hK hP hD hS 0 rfl rfl 8 (by decide) (hts _ wt4_66) (fun _ h9 => h9) rfl (by decide +kernel) rfl rfl (Nat.le_of_ble_eq_true rfl) dMo_pair_199 (fun H locs hP hD hS => ?_)
                    have hP : va_P (dC, dI) vwCl (wMo dA mo ft lf hg kk tx1_171 pn tk fm tO tl mI mT mS mC mL mB F1_171 U1_171 X1_171 mP mK D1_109 Z1_109 []) H := hP
                    have hD : va_D A (wMo dA mo ft lf hg kk tx1_171 pn tk fm tO tl mI mT mS mC mL mB F1_171 U1_171 X1_171 mP mK D1_109 Z1_109 []) := hD
                    refine lv_iload hx hb dMo_pair_202 (lv_at hl 0 rfl) ?_
                    exact rt_i hx hb hr hlocks hK hS dMo_pair_204 (mT, mS, mC, mL, mB, D1_109, Z1_109, F1_171, U1_171, X1_171, tx1_171, hg) hP hD (show (0 ≤ rc - 97 ∧ rc - 97 < 26 ∧ b9 = (cmdA st c0 (rc - 97) D lg).1 ∧ MA mT mS mC mL mB hg kk F1_171 U1_171 X1_171 tx1_171 mP pn (cmdA st c0 (rc - 97) D lg).2) ∨ ((rc - 97 < 0 ∨ 26 ≤ rc - 97) ∧ b9 = -1 ∧ MA mT mS mC mL mB hg kk F1_171 U1_171 X1_171 tx1_171 mP pn st) from by refine Or.inl ⟨by omega, by omega, ?_⟩; rw [hcp]; first | (have hx9 := (hrn.resolve_left (fun z => by omega)).2; rw [cho_n hx9]; exact ⟨rfl, MH_c (MH_h hMH (show 0 ≤ hg - 2 ∧ hg - 2 ≤ hg by omega)) (by show st.h - 2 = hg - 2; omega) rfl rfl rfl, MX_c hMX rfl rfl rfl, MG_c hMG rfl rfl⟩) | (have hx9 := (hrn.resolve_right (fun z => by omega)).2; have hbz : (begA st (st.reg (rc - 97))).1 ≠ 0 := (by have h := hq171.1; omega); have h := cho_f (c := c0) hx9 hbz; rw [h.1]; have h2 := hq171.2; rw [h.2] at h2; exact ⟨hq171.1, MH_c (MH_o thO_r hMH) rfl rfl rfl rfl, h2, hMG⟩) | (have hx9 := (hrn.resolve_right (fun z => by omega)).2; rw [cho_0 hx9 (by have h := hq171.1; omega)]; exact ⟨by omega, MH_c (MH_h hMH (show 0 ≤ hg - 2 ∧ hg - 2 ≤ hg by omega)) (by show st.h - 2 = hg - 2; omega) hbk.2.1 hbk.2.2.1 hbk.2.2.2.1, MX_c hq171.2 rfl rfl rfl, MG_c hMG hbk.2.2.2.2.2.2.1 hbk.2.2.2.2.2.2.2⟩))
              refine iv_icmp_ne (tgt := 133) hx hb dMo_pair_117 (by decide) ⟨by omega, by omega⟩ ⟨by decide, by decide⟩ (fun hc117 => ?_) (fun hc117 => ?_)
              · refine lv_iload_n hx hb dMo_pair_133 rfl (lv_at hl 4 rfl) ?_
                refine lv_bipush (v := iI 62) hx hb dMo_pair_134 (by decide) ?_
                refine iv_icmp_ne (tgt := 152) hx hb dMo_pair_136 (by decide) ⟨by omega, by omega⟩ ⟨by decide, by decide⟩ (fun hc136 => ?_) (fun hc136 => ?_)
                · refine lv_iload hx hb dMo_pair_152 (lv_at hl 0 rfl) ?_
                  refine iv_if_ne (tgt := 161) hx hb dMo_pair_154 (by decide) ⟨by omega, by omega⟩ (fun hc154 => ?_) (fun hc154 => ?_)
                  · refine lv_iconst (v := iI 0) hx hb dMo_pair_161 rfl ?_
                    refine lv_istore (lv' := [(6, .int (iI 0)), (5, .int (iI o9)), (4, .int (iI (25 + hg))), (3, .int (iI (rc - 97))), (0, .ref mo), (1, .int (iI c0)), (2, .int (iI rc))]) hx hb dMo_pair_162 hl (by decide) rfl (fun ls hl => ?_)
                    exact J164 0 H locs ls (by rw [hho]; omega) hP hD hS (lv_sub hl [1, 2, 3, 4, 5, 6, 0] rfl)
                  · refine lv_iconst (v := iI 1) hx hb dMo_pair_157 rfl ?_
                    refine lv_goto (tgt := 162) hx hb dMo_pair_158 (by decide) ?_
                    refine lv_istore (lv' := [(6, .int (iI 1)), (5, .int (iI o9)), (4, .int (iI (25 + hg))), (3, .int (iI (rc - 97))), (0, .ref mo), (1, .int (iI c0)), (2, .int (iI rc))]) hx hb dMo_pair_162 hl (by decide) rfl (fun ls hl => ?_)
                    exact J164 1 H locs ls (by rw [hho]; omega) hP hD hS (lv_sub hl [1, 2, 3, 4, 5, 6, 0] rfl)
                · refine lv_iload hx hb dMo_pair_139 (lv_at hl 0 rfl) ?_
                  refine iv_if_le (tgt := 148) hx hb dMo_pair_141 (by decide) ⟨by omega, by omega⟩ (fun hc141 => ?_) (fun hc141 => ?_)
                  · refine lv_iconst (v := iI 0) hx hb dMo_pair_148 rfl ?_
                    refine lv_goto (tgt := 162) hx hb dMo_pair_149 (by decide) ?_
                    refine lv_istore (lv' := [(6, .int (iI 0)), (5, .int (iI o9)), (4, .int (iI (25 + hg))), (3, .int (iI (rc - 97))), (0, .ref mo), (1, .int (iI c0)), (2, .int (iI rc))]) hx hb dMo_pair_162 hl (by decide) rfl (fun ls hl => ?_)
                    exact J164 0 H locs ls (by rw [hho]; omega) hP hD hS (lv_sub hl [1, 2, 3, 4, 5, 6, 0] rfl)
                  · refine lv_iconst (v := iI 1) hx hb dMo_pair_144 rfl ?_
                    refine lv_goto (tgt := 162) hx hb dMo_pair_145 (by decide) ?_
                    refine lv_istore (lv' := [(6, .int (iI 1)), (5, .int (iI o9)), (4, .int (iI (25 + hg))), (3, .int (iI (rc - 97))), (0, .ref mo), (1, .int (iI c0)), (2, .int (iI rc))]) hx hb dMo_pair_162 hl (by decide) rfl (fun ls hl => ?_)
                    exact J164 1 H locs ls (by rw [hho]; omega) hP hD hS (lv_sub hl [1, 2, 3, 4, 5, 6, 0] rfl)
              · refine lv_iload hx hb dMo_pair_120 (lv_at hl 0 rfl) ?_
                refine iv_if_ge (tgt := 129) hx hb dMo_pair_122 (by decide) ⟨by omega, by omega⟩ (fun hc122 => ?_) (fun hc122 => ?_)
                · refine lv_iconst (v := iI 0) hx hb dMo_pair_129 rfl ?_
                  refine lv_goto (tgt := 162) hx hb dMo_pair_130 (by decide) ?_
                  refine lv_istore (lv' := [(6, .int (iI 0)), (5, .int (iI o9)), (4, .int (iI (25 + hg))), (3, .int (iI (rc - 97))), (0, .ref mo), (1, .int (iI c0)), (2, .int (iI rc))]) hx hb dMo_pair_162 hl (by decide) rfl (fun ls hl => ?_)
                  exact J164 0 H locs ls (by rw [hho]; omega) hP hD hS (lv_sub hl [1, 2, 3, 4, 5, 6, 0] rfl)
                · refine lv_iconst (v := iI 1) hx hb dMo_pair_125 rfl ?_
                  refine lv_goto (tgt := 162) hx hb dMo_pair_126 (by decide) ?_
                  refine lv_istore (lv' := [(6, .int (iI 1)), (5, .int (iI o9)), (4, .int (iI (25 + hg))), (3, .int (iI (rc - 97))), (0, .ref mo), (1, .int (iI c0)), (2, .int (iI rc))]) hx hb dMo_pair_162 hl (by decide) rfl (fun ls hl => ?_)
                  exact J164 1 H locs ls (by rw [hho]; omega) hP hD hS (lv_sub hl [1, 2, 3, 4, 5, 6, 0] rfl)
            · refine lv_bipush (v := iI (-3)) hx hb dMo_pair_99 (by decide) ?_
              exact rt_i hx hb hr hlocks hK hS dMo_pair_101 (mT, mS, mC, mL, mB, mD, mZ, mF, mU, mX, tx, hg) hP hD (show (0 ≤ rc - 97 ∧ rc - 97 < 26 ∧ (-3) = (cmdA st c0 (rc - 97) D lg).1 ∧ MA mT mS mC mL mB hg kk mF mU mX tx mP pn (cmdA st c0 (rc - 97) D lg).2) ∨ ((rc - 97 < 0 ∨ 26 ≤ rc - 97) ∧ (-3) = -1 ∧ MA mT mS mC mL mB hg kk mF mU mX tx mP pn st) from by refine Or.inl ⟨by omega, by omega, ?_⟩; rw [cmd_t (by rw [need_2 (by omega)]; omega) (by unfold nums; omega) (by rw [need_2 (by omega)]; exact nt_x hMH (by omega) (by rcases hq93 with ⟨w, -⟩ | ⟨-, w⟩; omega; exact w))]; exact ⟨rfl, hMA0⟩)
          · refine lv_bipush (v := iI (-2)) hx hb dMo_pair_63 (by decide) ?_
            exact rt_i hx hb hr hlocks hK hS dMo_pair_65 (mT, mS, mC, mL, mB, mD, mZ, mF, mU, mX, tx, hg) hP hD (show (0 ≤ rc - 97 ∧ rc - 97 < 26 ∧ (-2) = (cmdA st c0 (rc - 97) D lg).1 ∧ MA mT mS mC mL mB hg kk mF mU mX tx mP pn (cmdA st c0 (rc - 97) D lg).2) ∨ ((rc - 97 < 0 ∨ 26 ≤ rc - 97) ∧ (-2) = -1 ∧ MA mT mS mC mL mB hg kk mF mU mX tx mP pn st) from by refine Or.inl ⟨by omega, by omega, ?_⟩; rw [cmd_e (by first | (rw [need_1 (by omega)]; omega) | (rw [need_2 (by omega)]; omega))]; exact ⟨rfl, hMA0⟩)
        · refine lv_iconst (v := iI 1) hx hb dMo_pair_55 rfl ?_
          refine lv_goto (tgt := 60) hx hb dMo_pair_56 (by decide) ?_
          refine iv_icmp_ge (tgt := 66) hx hb dMo_pair_60 (by decide) ⟨by omega, by omega⟩ ⟨by decide, by decide⟩ (fun hc60 => ?_) (fun hc60 => ?_)
          · refine lv_iload_n hx hb dMo_pair_66 rfl (lv_at hl 3 rfl) ?_
            refine lv_bipush (v := iI 115) hx hb dMo_pair_67 (by decide) ?_
            refine iv_icmp_ne (tgt := 91) hx hb dMo_pair_69 (by decide) ⟨by omega, by omega⟩ ⟨by decide, by decide⟩ (fun hc69 => absurd hc69 (by omega)) (fun hc69 => ?_)
            refine lv_aload_n hx hb dMo_pair_72 rfl (lv_at hl 2 rfl) ?_
            refine lv_iload_n hx hb dMo_pair_73 rfl (lv_at hl 1 rfl) ?_
            refine lv_iload hx hb dMo_pair_74 (lv_at hl 0 rfl) ?_
            refine cv_v (va_runV (C := "MacroReckonerModel") (As := [.int (iI (rc - 97)), .int (iI (25 + hg))]) (rest := []) ⟨hx, hb, hml, hown, hts⟩ (cMo_move l dC dI dA mo ft lf hg kk tx pn tk fm tO tl mI mT mS mC mL mB mF mU mX mP mK mD mZ (rc - 97) (25 + hg) (by omega) (by exact hbo _ (by omega) (by omega)) H.size) (cwV 2 hts (gdV wt4_203 wt4_205 ws4_5 wt1_8 wt4_206) rfl rfl rfl ⟨rfl, by decide, by decide, by decide +kernel⟩ ⟨by decide, by decide⟩) (preV (q := ("MacroReckonerModel", TMo, 23)) hK hP hD hS hA XN_ok trivial [0, 1, 2, 3, 4, 5, 6, 7, 8, 9, 10, 11, 12, 13] rfl rfl 0 rfl rfl) rfl rfl hl.1 rfl (lv_room (Nat.le_of_ble_eq_true rfl)) dMo_pair_76 ⟨Nat.zero_le _, Nat.zero_le _⟩) hP hD hS hA [0, 1, 2, 3, 4, 5, 6, 7, 8, 9, 10, 11, 12, 13] [] rfl (fun v_ => wMo dA mo ft lf hg kk tx pn tk fm tO tl mI v_.1 v_.2.1 v_.2.2.1 v_.2.2.2.1 v_.2.2.2.2 mF mU mX mP mK mD mZ []) (fun _ => rfl) ([] : va_W) rfl (fun _ => rfl) [mo, mo + 1, mo + 2, mo + 3, mo + 4, mo + 5, mo + 6, mo + 7, mo + 8, mo + 9, mo + 10, mo + 11, mo + 12, mo + 13] rfl (fun _ => rfl) (fun _ => rfl) (fun u_ H locs hq76 hP hD hS => ?_)
            obtain ⟨T1_76, S1_76, C1_76, L1_76, B1_76⟩ := u_
            have hP : va_P (dC, dI) vwCl (wMo dA mo ft lf hg kk tx pn tk fm tO tl mI T1_76 S1_76 C1_76 L1_76 B1_76 mF mU mX mP mK mD mZ []) H := hP
            have hD : va_D A (wMo dA mo ft lf hg kk tx pn tk fm tO tl mI T1_76 S1_76 C1_76 L1_76 B1_76 mF mU mX mP mK mD mZ []) := hD
            have hq76 : (∀ a, MT mT mS mC mL mB (25 + hg) a → MT T1_76 S1_76 C1_76 L1_76 B1_76 (rc - 97) a) ∧ thO mT mS mC mL mB T1_76 S1_76 C1_76 L1_76 B1_76 (rc - 97) := hq76
            refine lv_aload_n hx hb dMo_pair_79 rfl (lv_at hl 2 rfl) ?_
            refine lv_dup hx hb dMo_pair_80 rfl ?_
            refine va_get (D := (dC, dI)) (ci := 7) (v := .int (iI hg)) (C := "MacroReckonerModel") (T := TMo) (N := 23) hx hb hts inMo hown hK hP 0 rfl rfl 8 (by decide) (hts _ wt4_66) (fun _ h9 => h9) rfl dMo_pair_81 ?_
            refine lv_iconst (v := iI 1) hx hb dMo_pair_84 rfl ?_
            refine iv_isub hx hb dMo_pair_85 ?_
            refine va_put (D := (dC, dI)) (ci := 7) (v := .int (iI (hg - 1))) (ty := .int) (C := "MacroReckonerModel") (T := TMo) (N := 23) hx hb hts inMo tyMo tyMo_ok nmMo hown hK hP hD hS 0 rfl rfl 8 (by decide) (hts _ wt4_66) (fun _ h9 => h9) rfl (by decide +kernel) rfl rfl (Nat.le_of_ble_eq_true rfl) dMo_pair_86 (fun H locs hP hD hS => ?_)
            have hP : va_P (dC, dI) vwCl (wMo dA mo ft lf (hg - 1) kk tx pn tk fm tO tl mI T1_76 S1_76 C1_76 L1_76 B1_76 mF mU mX mP mK mD mZ []) H := hP
            have hD : va_D A (wMo dA mo ft lf (hg - 1) kk tx pn tk fm tO tl mI T1_76 S1_76 C1_76 L1_76 B1_76 mF mU mX mP mK mD mZ []) := hD
            refine lv_iconst (v := iI 0) hx hb dMo_pair_89 rfl ?_
            exact rt_i hx hb hr hlocks hK hS dMo_pair_90 (T1_76, S1_76, C1_76, L1_76, B1_76, mD, mZ, mF, mU, mX, tx, hg - 1) hP hD (show (0 ≤ rc - 97 ∧ rc - 97 < 26 ∧ 0 = (cmdA st c0 (rc - 97) D lg).1 ∧ MA T1_76 S1_76 C1_76 L1_76 B1_76 (hg - 1) kk mF mU mX tx mP pn (cmdA st c0 (rc - 97) D lg).2) ∨ ((rc - 97 < 0 ∨ 26 ≤ rc - 97) ∧ 0 = -1 ∧ MA T1_76 S1_76 C1_76 L1_76 B1_76 (hg - 1) kk mF mU mX tx mP pn st) from by refine Or.inl ⟨by omega, by omega, ?_⟩; rw [cmd_p (by rw [need_1 (by omega)]; omega) (fun z => by unfold nums at z; omega), perf_p.2.2.1 (by omega)]; exact ⟨rfl, MH_st hMH (by omega) (by omega) hq76.1 hq76.2, MX_c hMX rfl rfl rfl, MG_c hMG rfl rfl⟩)
          · refine lv_bipush (v := iI (-2)) hx hb dMo_pair_63 (by decide) ?_
            exact rt_i hx hb hr hlocks hK hS dMo_pair_65 (mT, mS, mC, mL, mB, mD, mZ, mF, mU, mX, tx, hg) hP hD (show (0 ≤ rc - 97 ∧ rc - 97 < 26 ∧ (-2) = (cmdA st c0 (rc - 97) D lg).1 ∧ MA mT mS mC mL mB hg kk mF mU mX tx mP pn (cmdA st c0 (rc - 97) D lg).2) ∨ ((rc - 97 < 0 ∨ 26 ≤ rc - 97) ∧ (-2) = -1 ∧ MA mT mS mC mL mB hg kk mF mU mX tx mP pn st) from by refine Or.inl ⟨by omega, by omega, ?_⟩; rw [cmd_e (by first | (rw [need_1 (by omega)]; omega) | (rw [need_2 (by omega)]; omega))]; exact ⟨rfl, hMA0⟩)
      · refine lv_aload_n hx hb dMo_pair_32 rfl (lv_at hl 2 rfl) ?_
        refine lv_bipush (v := iI 46) hx hb dMo_pair_33 (by decide) ?_
        refine lv_iload_n hx hb dMo_pair_35 rfl (lv_at hl 1 rfl) ?_
        refine cv_v (va_runV (C := "MacroReckonerModel") (As := [.int (iI 46), .int (iI (rc - 97))]) (rest := []) ⟨hx, hb, hml, hown, hts⟩ (cMo_move l dC dI dA mo ft lf hg kk tx pn tk fm tO tl mI mT mS mC mL mB mF mU mX mP mK mD mZ 46 (rc - 97) (by omega) (by exact hbo _ (by omega) (by omega)) H.size) (cwV 2 hts (gdV wt4_203 wt4_205 ws4_5 wt1_8 wt4_206) rfl rfl rfl ⟨rfl, by decide, by decide, by decide +kernel⟩ ⟨by decide, by decide⟩) (preV (q := ("MacroReckonerModel", TMo, 23)) hK hP hD hS hA XN_ok trivial [0, 1, 2, 3, 4, 5, 6, 7, 8, 9, 10, 11, 12, 13] rfl rfl 0 rfl rfl) rfl rfl hl.1 rfl (lv_room (Nat.le_of_ble_eq_true rfl)) dMo_pair_36 ⟨Nat.zero_le _, Nat.zero_le _⟩) hP hD hS hA [0, 1, 2, 3, 4, 5, 6, 7, 8, 9, 10, 11, 12, 13] [] rfl (fun v_ => wMo dA mo ft lf hg kk tx pn tk fm tO tl mI v_.1 v_.2.1 v_.2.2.1 v_.2.2.2.1 v_.2.2.2.2 mF mU mX mP mK mD mZ []) (fun _ => rfl) ([] : va_W) rfl (fun _ => rfl) [mo, mo + 1, mo + 2, mo + 3, mo + 4, mo + 5, mo + 6, mo + 7, mo + 8, mo + 9, mo + 10, mo + 11, mo + 12, mo + 13] rfl (fun _ => rfl) (fun _ => rfl) (fun u_ H locs hq36 hP hD hS => ?_)
        obtain ⟨T1_36, S1_36, C1_36, L1_36, B1_36⟩ := u_
        have hP : va_P (dC, dI) vwCl (wMo dA mo ft lf hg kk tx pn tk fm tO tl mI T1_36 S1_36 C1_36 L1_36 B1_36 mF mU mX mP mK mD mZ []) H := hP
        have hD : va_D A (wMo dA mo ft lf hg kk tx pn tk fm tO tl mI T1_36 S1_36 C1_36 L1_36 B1_36 mF mU mX mP mK mD mZ []) := hD
        have hq36 : (∀ a, MT mT mS mC mL mB (rc - 97) a → MT T1_36 S1_36 C1_36 L1_36 B1_36 46 a) ∧ thO mT mS mC mL mB T1_36 S1_36 C1_36 L1_36 B1_36 46 := hq36
        refine lv_aload_n hx hb dMo_pair_39 rfl (lv_at hl 2 rfl) ?_
        refine lv_iconst (v := iI 0) hx hb dMo_pair_40 rfl ?_
        refine cv_i (va_runV (C := "MacroReckonerModel") (As := [.int (iI 0)]) (rest := []) ⟨hx, hb, hml, hown, hts⟩ (cMo_put l dC dI dA mo ft lf hg kk tx pn tk fm tO tl mI T1_36 S1_36 C1_36 L1_36 B1_36 mF mU mX mP mK mD mZ 0 (by omega) (by exact (MT_b (hq36.1 _ (hMH.2.2.1 _ (by omega) (by omega)))).1) H.size) (cwV 1 hts (gdV wt4_199 wt4_201 ws4_4 wt1_8 wt4_202) rfl rfl rfl ⟨rfl, by decide, by decide, by decide +kernel⟩ ⟨by decide, by decide⟩) (preV (q := ("MacroReckonerModel", TMo, 23)) hK hP hD hS hA XN_ok trivial [0, 1, 2, 3, 4, 5, 6, 7, 8, 9, 10, 11, 12, 13] rfl rfl 0 rfl rfl) rfl rfl hl.1 rfl (lv_room (Nat.le_of_ble_eq_true rfl)) dMo_pair_41 ⟨Nat.zero_le _, Nat.zero_le _⟩) hP hD hS hA [0, 1, 2, 3, 4, 5, 6, 7, 8, 9, 10, 11, 12, 13] [] rfl (fun v_ => wMo dA mo ft lf v_.2.2.2.2.2 kk tx pn tk fm tO tl mI v_.1 v_.2.1 v_.2.2.1 v_.2.2.2.1 v_.2.2.2.2.1 mF mU mX mP mK mD mZ []) (fun _ => rfl) ([] : va_W) rfl (fun _ => rfl) [mo, mo + 1, mo + 2, mo + 3, mo + 4, mo + 5, mo + 6, mo + 7, mo + 8, mo + 9, mo + 10, mo + 11, mo + 12, mo + 13] rfl (fun _ => rfl) (fun _ => rfl) (fun r41 u_ H locs hq41 hP hD hS => ?_)
        obtain ⟨T1_41, S1_41, C1_41, L1_41, B1_41, hg1_41⟩ := u_
        have hP : va_P (dC, dI) vwCl (wMo dA mo ft lf hg1_41 kk tx pn tk fm tO tl mI T1_41 S1_41 C1_41 L1_41 B1_41 mF mU mX mP mK mD mZ []) H := hP
        have hD : va_D A (wMo dA mo ft lf hg1_41 kk tx pn tk fm tO tl mI T1_41 S1_41 C1_41 L1_41 B1_41 mF mU mX mP mK mD mZ []) := hD
        have hq41 : putR r41 hg 0 hg1_41 T1_36 S1_36 C1_36 L1_36 B1_36 T1_41 S1_41 C1_41 L1_41 B1_41 := hq41
        exact rt_i hx hb hr hlocks hK hS dMo_pair_44 (T1_41, S1_41, C1_41, L1_41, B1_41, mD, mZ, mF, mU, mX, tx, hg1_41) hP hD (show (0 ≤ rc - 97 ∧ rc - 97 < 26 ∧ r41 = (cmdA st c0 (rc - 97) D lg).1 ∧ MA T1_41 S1_41 C1_41 L1_41 B1_41 hg1_41 kk mF mU mX tx mP pn (cmdA st c0 (rc - 97) D lg).2) ∨ ((rc - 97 < 0 ∨ 26 ≤ rc - 97) ∧ r41 = -1 ∧ MA T1_41 S1_41 C1_41 L1_41 B1_41 hg1_41 kk mF mU mX tx mP pn st) from by refine Or.inl ⟨by omega, by omega, ?_⟩; rw [cmd_p (by rw [need_0 (by omega)]; omega) (fun z => by unfold nums at z; omega), perf_p.2.2.2.1 (by omega)]; have h6 := put_0 hq41 (MH_o hq36.2 hMH) (hq36.1 _ (hMH.2.2.1 _ (by omega) (by omega))); exact ⟨h6.1, h6.2, MX_push hMX, MG_push hMG⟩)
    · refine lv_iconst (v := iI (-1)) hx hb dMo_pair_15 rfl ?_
      exact rt_i hx hb hr hlocks hK hS dMo_pair_16 (mT, mS, mC, mL, mB, mD, mZ, mF, mU, mX, tx, hg) hP hD (show (0 ≤ rc - 97 ∧ rc - 97 < 26 ∧ (-1) = (cmdA st c0 (rc - 97) D lg).1 ∧ MA mT mS mC mL mB hg kk mF mU mX tx mP pn (cmdA st c0 (rc - 97) D lg).2) ∨ ((rc - 97 < 0 ∨ 26 ≤ rc - 97) ∧ (-1) = -1 ∧ MA mT mS mC mL mB hg kk mF mU mX tx mP pn st) from by exact Or.inr ⟨by omega, rfl, hMA0⟩)
