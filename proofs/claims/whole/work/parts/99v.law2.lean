theorem wt2_31 : (Cond.codeWith ⟨"MacroReckonerLaw", "run", "(LMacroReckoner;I[J)I"⟩ method_3_code 4 (Option.some Jvm.ClassFile.FieldType.int) [(0, 9, 12, 13)]) ∈ wg := List.mem_filter.mpr ⟨List.mem_append_right _ (List.mem_append_right _ (List.mem_append_left _ (List.mem_of_getElem? (i := 31) rfl))), rfl⟩
theorem wt4_47 : (Cond.codeWith ⟨"MacroReckonerLaw", "isText", "(LMacroReckoner;C[J)I"⟩ method_4_code 4 (Option.some Jvm.ClassFile.FieldType.int) [(0, 16, 19, 13)]) ∈ wg := List.mem_filter.mpr ⟨List.mem_append_right _ (List.mem_append_right _ (List.mem_append_right _ (List.mem_append_right _ (List.mem_append_left _ (List.mem_of_getElem? (i := 47) rfl))))), rfl⟩
theorem dLaw_0 : decode code 0 = .ok (.new 8, 3) := by decide +kernel
theorem dLaw_3 : decode code 3 = .ok (.dup, 1) := by decide +kernel
theorem dLaw_4 : decode code 4 = .ok (.invokespecial 19, 3) := by decide +kernel
theorem dLaw_7 : decode code 7 = .ok (.astore_n 1, 1) := by decide +kernel
theorem dLaw_8 : decode code 8 = .ok (.new 20, 3) := by decide +kernel
theorem dLaw_11 : decode code 11 = .ok (.dup, 1) := by decide +kernel
theorem dLaw_12 : decode code 12 = .ok (.invokespecial 22, 3) := by decide +kernel
theorem dLaw_15 : decode code 15 = .ok (.astore_n 2, 1) := by decide +kernel
theorem dLaw_16 : decode code 16 = .ok (.iconst 1, 1) := by decide +kernel
theorem dLaw_17 : decode code 17 = .ok (.newarray .long, 2) := by decide +kernel
theorem dLaw_19 : decode code 19 = .ok (.astore_n 3, 1) := by decide +kernel
theorem dLaw_20 : decode code 20 = .ok (.iconst 0, 1) := by decide +kernel
theorem dLaw_21 : decode code 21 = .ok (.istore 4, 2) := by decide +kernel
theorem dLaw_23 : decode code 23 = .ok (.iload 4, 2) := by decide +kernel
theorem dLaw_25 : decode code 25 = .ok (.aload_n 0, 1) := by decide +kernel
theorem dLaw_26 : decode code 26 = .ok (.arraylength, 1) := by decide +kernel
theorem dLaw_27 : decode code 27 = .ok (.iconst 2, 1) := by decide +kernel
theorem dLaw_28 : decode code 28 = .ok (.isub, 1) := by decide +kernel
theorem dLaw_29 : decode code 29 = .ok (.if_icmp .gt 320, 3) := by decide +kernel
theorem dLaw_32 : decode code 32 = .ok (.aload_n 0, 1) := by decide +kernel
theorem dLaw_33 : decode code 33 = .ok (.iload 4, 2) := by decide +kernel
theorem dLaw_35 : decode code 35 = .ok (.iaload, 1) := by decide +kernel
theorem dLaw_36 : decode code 36 = .ok (.bipush 15, 2) := by decide +kernel
theorem dLaw_38 : decode code 38 = .ok (.iand, 1) := by decide +kernel
theorem dLaw_39 : decode code 39 = .ok (.tableswitch 304 0 9 #[53, 80, 136, 149, 162, 175, 188, 253, 266, 291], 53) := by decide +kernel
theorem dLaw_92 : decode code 92 = .ok (.aload_n 1, 1) := by decide +kernel
theorem dLaw_93 : decode code 93 = .ok (.aload_n 0, 1) := by decide +kernel
theorem dLaw_94 : decode code 94 = .ok (.iload 4, 2) := by decide +kernel
theorem dLaw_96 : decode code 96 = .ok (.iconst 1, 1) := by decide +kernel
theorem dLaw_97 : decode code 97 = .ok (.iadd, 1) := by decide +kernel
theorem dLaw_98 : decode code 98 = .ok (.iaload, 1) := by decide +kernel
theorem dLaw_99 : decode code 99 = .ok (.i2c, 1) := by decide +kernel
theorem dLaw_100 : decode code 100 = .ok (.invokevirtual 23, 3) := by decide +kernel
theorem dLaw_103 : decode code 103 = .ok (.aload_n 2, 1) := by decide +kernel
theorem dLaw_104 : decode code 104 = .ok (.aload_n 0, 1) := by decide +kernel
theorem dLaw_105 : decode code 105 = .ok (.iload 4, 2) := by decide +kernel
theorem dLaw_107 : decode code 107 = .ok (.iconst 1, 1) := by decide +kernel
theorem dLaw_108 : decode code 108 = .ok (.iadd, 1) := by decide +kernel
theorem dLaw_109 : decode code 109 = .ok (.iaload, 1) := by decide +kernel
theorem dLaw_110 : decode code 110 = .ok (.i2c, 1) := by decide +kernel
theorem dLaw_111 : decode code 111 = .ok (.invokevirtual 26, 3) := by decide +kernel
theorem dLaw_114 : decode code 114 = .ok (.if_icmp .eq 229, 3) := by decide +kernel
theorem dLaw_117 : decode code 117 = .ok (.iconst 0, 1) := by decide +kernel
theorem dLaw_118 : decode code 118 = .ok (.ireturn, 1) := by decide +kernel
theorem dLaw_119 : decode code 119 = .ok (.aload_n 1, 1) := by decide +kernel
theorem dLaw_120 : decode code 120 = .ok (.aload_n 0, 1) := by decide +kernel
theorem dLaw_121 : decode code 121 = .ok (.iload 4, 2) := by decide +kernel
theorem dLaw_123 : decode code 123 = .ok (.iconst 1, 1) := by decide +kernel
theorem dLaw_124 : decode code 124 = .ok (.iadd, 1) := by decide +kernel
theorem dLaw_125 : decode code 125 = .ok (.iaload, 1) := by decide +kernel
theorem dLaw_126 : decode code 126 = .ok (.aload_n 3, 1) := by decide +kernel
theorem dLaw_127 : decode code 127 = .ok (.invokestatic 27, 3) := by decide +kernel
theorem dLaw_130 : decode code 130 = .ok (.istore 5, 2) := by decide +kernel
theorem dLaw_132 : decode code 132 = .ok (.aload_n 2, 1) := by decide +kernel
theorem dLaw_133 : decode code 133 = .ok (.aload_n 0, 1) := by decide +kernel
theorem dLaw_134 : decode code 134 = .ok (.iload 4, 2) := by decide +kernel
theorem dLaw_136 : decode code 136 = .ok (.iconst 1, 1) := by decide +kernel
theorem dLaw_137 : decode code 137 = .ok (.iadd, 1) := by decide +kernel
theorem dLaw_138 : decode code 138 = .ok (.iaload, 1) := by decide +kernel
theorem dLaw_139 : decode code 139 = .ok (.invokevirtual 32, 3) := by decide +kernel
theorem dLaw_142 : decode code 142 = .ok (.istore 6, 2) := by decide +kernel
theorem dLaw_144 : decode code 144 = .ok (.aload_n 2, 1) := by decide +kernel
theorem dLaw_145 : decode code 145 = .ok (.invokevirtual 33, 3) := by decide +kernel
theorem dLaw_148 : decode code 148 = .ok (.iload 5, 2) := by decide +kernel
theorem dLaw_150 : decode code 150 = .ok (.if_icmp .eq 5, 3) := by decide +kernel
theorem dLaw_153 : decode code 153 = .ok (.iconst 0, 1) := by decide +kernel
theorem dLaw_154 : decode code 154 = .ok (.ireturn, 1) := by decide +kernel
theorem dLaw_155 : decode code 155 = .ok (.iload 5, 2) := by decide +kernel
theorem dLaw_157 : decode code 157 = .ok (.ifCond .ne 15, 3) := by decide +kernel
theorem dLaw_160 : decode code 160 = .ok (.aload_n 3, 1) := by decide +kernel
theorem dLaw_161 : decode code 161 = .ok (.iconst 0, 1) := by decide +kernel
theorem dLaw_162 : decode code 162 = .ok (.laload, 1) := by decide +kernel
theorem dLaw_163 : decode code 163 = .ok (.iload 6, 2) := by decide +kernel
theorem dLaw_165 : decode code 165 = .ok (.i2l, 1) := by decide +kernel
theorem dLaw_166 : decode code 166 = .ok (.lcmp, 1) := by decide +kernel
theorem dLaw_167 : decode code 167 = .ok (.ifCond .eq 5, 3) := by decide +kernel
theorem dLaw_170 : decode code 170 = .ok (.iconst 0, 1) := by decide +kernel
theorem dLaw_171 : decode code 171 = .ok (.ireturn, 1) := by decide +kernel
theorem dLaw_172 : decode code 172 = .ok (.goto 171, 3) := by decide +kernel
theorem dLaw_175 : decode code 175 = .ok (.aload_n 1, 1) := by decide +kernel
theorem dLaw_176 : decode code 176 = .ok (.invokevirtual 37, 3) := by decide +kernel
theorem dLaw_179 : decode code 179 = .ok (.aload_n 2, 1) := by decide +kernel
theorem dLaw_180 : decode code 180 = .ok (.invokevirtual 40, 3) := by decide +kernel
theorem dLaw_183 : decode code 183 = .ok (.if_icmp .eq 160, 3) := by decide +kernel
theorem dLaw_186 : decode code 186 = .ok (.iconst 0, 1) := by decide +kernel
theorem dLaw_187 : decode code 187 = .ok (.ireturn, 1) := by decide +kernel
theorem dLaw_188 : decode code 188 = .ok (.aload_n 1, 1) := by decide +kernel
theorem dLaw_189 : decode code 189 = .ok (.invokevirtual 41, 3) := by decide +kernel
theorem dLaw_192 : decode code 192 = .ok (.aload_n 2, 1) := by decide +kernel
theorem dLaw_193 : decode code 193 = .ok (.invokevirtual 44, 3) := by decide +kernel
theorem dLaw_196 : decode code 196 = .ok (.if_icmp .eq 147, 3) := by decide +kernel
theorem dLaw_199 : decode code 199 = .ok (.iconst 0, 1) := by decide +kernel
theorem dLaw_200 : decode code 200 = .ok (.ireturn, 1) := by decide +kernel
theorem dLaw_201 : decode code 201 = .ok (.aload_n 1, 1) := by decide +kernel
theorem dLaw_202 : decode code 202 = .ok (.invokevirtual 45, 3) := by decide +kernel
theorem dLaw_205 : decode code 205 = .ok (.aload_n 2, 1) := by decide +kernel
theorem dLaw_206 : decode code 206 = .ok (.invokevirtual 48, 3) := by decide +kernel
theorem dLaw_209 : decode code 209 = .ok (.if_icmp .eq 134, 3) := by decide +kernel
theorem dLaw_212 : decode code 212 = .ok (.iconst 0, 1) := by decide +kernel
theorem dLaw_213 : decode code 213 = .ok (.ireturn, 1) := by decide +kernel
theorem dLaw_214 : decode code 214 = .ok (.aload_n 1, 1) := by decide +kernel
theorem dLaw_215 : decode code 215 = .ok (.invokevirtual 49, 3) := by decide +kernel
theorem dLaw_218 : decode code 218 = .ok (.aload_n 2, 1) := by decide +kernel
theorem dLaw_219 : decode code 219 = .ok (.invokevirtual 52, 3) := by decide +kernel
theorem dLaw_222 : decode code 222 = .ok (.if_icmp .eq 121, 3) := by decide +kernel
theorem dLaw_225 : decode code 225 = .ok (.iconst 0, 1) := by decide +kernel
theorem dLaw_226 : decode code 226 = .ok (.ireturn, 1) := by decide +kernel
theorem dLaw_227 : decode code 227 = .ok (.aload_n 1, 1) := by decide +kernel
theorem dLaw_228 : decode code 228 = .ok (.aload_n 0, 1) := by decide +kernel
theorem dLaw_229 : decode code 229 = .ok (.iload 4, 2) := by decide +kernel
theorem dLaw_231 : decode code 231 = .ok (.iconst 1, 1) := by decide +kernel
theorem dLaw_232 : decode code 232 = .ok (.iadd, 1) := by decide +kernel
theorem dLaw_233 : decode code 233 = .ok (.iaload, 1) := by decide +kernel
theorem dLaw_234 : decode code 234 = .ok (.i2c, 1) := by decide +kernel
theorem dLaw_235 : decode code 235 = .ok (.aload_n 3, 1) := by decide +kernel
theorem dLaw_236 : decode code 236 = .ok (.invokestatic 53, 3) := by decide +kernel
theorem dLaw_239 : decode code 239 = .ok (.istore 5, 2) := by decide +kernel
theorem dLaw_241 : decode code 241 = .ok (.aload_n 2, 1) := by decide +kernel
theorem dLaw_242 : decode code 242 = .ok (.aload_n 0, 1) := by decide +kernel
theorem dLaw_243 : decode code 243 = .ok (.iload 4, 2) := by decide +kernel
theorem dLaw_245 : decode code 245 = .ok (.iconst 1, 1) := by decide +kernel
theorem dLaw_246 : decode code 246 = .ok (.iadd, 1) := by decide +kernel
theorem dLaw_247 : decode code 247 = .ok (.iaload, 1) := by decide +kernel
theorem dLaw_248 : decode code 248 = .ok (.i2c, 1) := by decide +kernel
theorem dLaw_249 : decode code 249 = .ok (.invokevirtual 56, 3) := by decide +kernel
theorem dLaw_252 : decode code 252 = .ok (.istore 6, 2) := by decide +kernel
theorem dLaw_254 : decode code 254 = .ok (.aload_n 2, 1) := by decide +kernel
theorem dLaw_255 : decode code 255 = .ok (.invokevirtual 33, 3) := by decide +kernel
theorem dLaw_258 : decode code 258 = .ok (.iload 5, 2) := by decide +kernel
theorem dLaw_260 : decode code 260 = .ok (.if_icmp .eq 5, 3) := by decide +kernel
theorem dLaw_263 : decode code 263 = .ok (.iconst 0, 1) := by decide +kernel
theorem dLaw_264 : decode code 264 = .ok (.ireturn, 1) := by decide +kernel
theorem dLaw_265 : decode code 265 = .ok (.iload 5, 2) := by decide +kernel
theorem dLaw_267 : decode code 267 = .ok (.ifCond .ne 22, 3) := by decide +kernel
theorem dLaw_270 : decode code 270 = .ok (.aload_n 3, 1) := by decide +kernel
theorem dLaw_271 : decode code 271 = .ok (.iconst 0, 1) := by decide +kernel
theorem dLaw_272 : decode code 272 = .ok (.laload, 1) := by decide +kernel
theorem dLaw_273 : decode code 273 = .ok (.iload 6, 2) := by decide +kernel
theorem dLaw_275 : decode code 275 = .ok (.ifCond .eq 7, 3) := by decide +kernel
theorem dLaw_278 : decode code 278 = .ok (.lconst 1, 1) := by decide +kernel
theorem dLaw_279 : decode code 279 = .ok (.goto 4, 3) := by decide +kernel
theorem dLaw_282 : decode code 282 = .ok (.lconst 0, 1) := by decide +kernel
theorem dLaw_283 : decode code 283 = .ok (.lcmp, 1) := by decide +kernel
theorem dLaw_284 : decode code 284 = .ok (.ifCond .eq 5, 3) := by decide +kernel
theorem dLaw_287 : decode code 287 = .ok (.iconst 0, 1) := by decide +kernel
theorem dLaw_288 : decode code 288 = .ok (.ireturn, 1) := by decide +kernel
theorem dLaw_289 : decode code 289 = .ok (.goto 54, 3) := by decide +kernel
theorem dLaw_292 : decode code 292 = .ok (.aload_n 1, 1) := by decide +kernel
theorem dLaw_293 : decode code 293 = .ok (.invokevirtual 57, 3) := by decide +kernel
theorem dLaw_296 : decode code 296 = .ok (.aload_n 2, 1) := by decide +kernel
theorem dLaw_297 : decode code 297 = .ok (.invokevirtual 60, 3) := by decide +kernel
theorem dLaw_300 : decode code 300 = .ok (.if_icmp .eq 43, 3) := by decide +kernel
theorem dLaw_303 : decode code 303 = .ok (.iconst 0, 1) := by decide +kernel
theorem dLaw_304 : decode code 304 = .ok (.ireturn, 1) := by decide +kernel
theorem dLaw_305 : decode code 305 = .ok (.aload_n 1, 1) := by decide +kernel
theorem dLaw_306 : decode code 306 = .ok (.aload_n 0, 1) := by decide +kernel
theorem dLaw_307 : decode code 307 = .ok (.iload 4, 2) := by decide +kernel
theorem dLaw_309 : decode code 309 = .ok (.iconst 1, 1) := by decide +kernel
theorem dLaw_310 : decode code 310 = .ok (.iadd, 1) := by decide +kernel
theorem dLaw_311 : decode code 311 = .ok (.iaload, 1) := by decide +kernel
theorem dLaw_312 : decode code 312 = .ok (.invokevirtual 61, 3) := by decide +kernel
theorem dLaw_315 : decode code 315 = .ok (.aload_n 2, 1) := by decide +kernel
theorem dLaw_316 : decode code 316 = .ok (.aload_n 0, 1) := by decide +kernel
theorem dLaw_317 : decode code 317 = .ok (.iload 4, 2) := by decide +kernel
theorem dLaw_319 : decode code 319 = .ok (.iconst 1, 1) := by decide +kernel
theorem dLaw_320 : decode code 320 = .ok (.iadd, 1) := by decide +kernel
theorem dLaw_321 : decode code 321 = .ok (.iaload, 1) := by decide +kernel
theorem dLaw_322 : decode code 322 = .ok (.invokevirtual 65, 3) := by decide +kernel
theorem dLaw_325 : decode code 325 = .ok (.if_icmp .eq 18, 3) := by decide +kernel
theorem dLaw_328 : decode code 328 = .ok (.iconst 0, 1) := by decide +kernel
theorem dLaw_329 : decode code 329 = .ok (.ireturn, 1) := by decide +kernel
theorem dLaw_330 : decode code 330 = .ok (.aload_n 1, 1) := by decide +kernel
theorem dLaw_331 : decode code 331 = .ok (.invokevirtual 66, 3) := by decide +kernel
theorem dLaw_334 : decode code 334 = .ok (.aload_n 2, 1) := by decide +kernel
theorem dLaw_335 : decode code 335 = .ok (.invokevirtual 69, 3) := by decide +kernel
theorem dLaw_338 : decode code 338 = .ok (.if_icmp .eq 5, 3) := by decide +kernel
theorem dLaw_341 : decode code 341 = .ok (.iconst 0, 1) := by decide +kernel
theorem dLaw_342 : decode code 342 = .ok (.ireturn, 1) := by decide +kernel
theorem dLaw_343 : decode code 343 = .ok (.iinc 4 2, 3) := by decide +kernel
theorem dLaw_346 : decode code 346 = .ok (.goto (-323), 3) := by decide +kernel
theorem dLaw_349 : decode code 349 = .ok (.iconst 1, 1) := by decide +kernel
theorem dLaw_350 : decode code 350 = .ok (.ireturn, 1) := by decide +kernel
set_option maxRecDepth 100000 in
set_option maxHeartbeats 8000000 in
theorem law_loop {p : Program} {l : Launch} {e : Env} {s : State} {m : MethodId} {args : Array Value} {below : List Frame} {meth : Method} {c : Code} {Q : State → Prop} {A : Nat → Prop} {dC : Nat → ClassId} {dI : Nat → Nat → Nat} {dA : Nat → ClassId} {dS ad : Nat → Nat} {sc b mo o L : Nat} {xs : Nat → Int32} (hfl : ∀ e : Env, l.admits e → e.platform.stackTraces = false) (hx : p.tables.exec = Jvm.exec) (hb : c.code = code) (hml : c.maxLocals = 7) (hown : s.vm.findClass "MacroReckonerLaw" = some m.cls) (hts : ∀ w ∈ wg, w.before args s = true) (hK : va_K (dC, dI) vwCl (tyA dA) s) (hA : ∀ q, s.heap.size ≤ q → A q) (hXM : XM dS ad A s s.heap) (hXE : XE A s s.heap) (hscr : va_X sc L xs s s.heap) (hsc : sc < s.heap.size) (hscA : ¬ A sc) (hL : L ≤ 1024) (hend : ∀ (H : Heap) (locs : List Loc) (ls : Array Slot), va_S A s.heap H locs → W p l e room_1 s m args below meth c H locs (749) (14426) Q (F0 m 349 ls [])) :
    ∀ (n t : Nat) (st : AS) (f : Nat → Int64) (ft : Int) (wx wm : va_W) (H : Heap) (locs : List Loc) (ls : Array Slot), t ≤ 512 → 512 - t < n → CW dA b st wx → MW dA mo ft st wm → va_P (dC, dI) vwCl (ocl dA o f :: wm ++ wx) H → va_D A (ocl dA o f :: wm ++ wx) → va_S A s.heap H locs → lv_has ls 7 [(0, .ref sc), (1, .ref b), (2, .ref mo), (3, .ref o), (4, .int (iI (2 * (t : Int))))] → W p l e room_1 s m args below meth c H locs (237 + t) (11354 + 6 * t) Q (F0 m 23 ls []) := by
  intro n
  induction n with
  | zero => intro t st f ft wx wm H locs ls ht hn; omega
  | succ n ih =>
    intro t st f ft wx wm H locs ls ht hn hw hm hP hD hS hl
    refine lv_iload hx hb dLaw_23 (lv_at hl 4 rfl) ?_
    refine lv_aload_n hx hb dLaw_25 rfl (lv_at hl 0 rfl) ?_
    refine va_slen hx hb hscr hsc hscA hS dLaw_26 ?_
    rw [show Int32.ofNat L = iI (L : Int) from (Int32.ofInt_eq_ofNat).symm]
    refine lv_iconst (v := iI 2) hx hb dLaw_27 rfl ?_
    refine iv_isub hx hb dLaw_28 ?_
    refine iv_icmp_gt (tgt := 349) hx hb dLaw_29 (by decide) ⟨by omega, by omega⟩ ⟨by omega, by omega⟩ (fun hc9 => ?_) (fun hc9 => ?_)
    · exact W.widen (k := 749) (n := 14426) (by omega) (by omega) (hend H locs ls hS)
    · have hnext : ∀ (st : AS) (f : Nat → Int64) (ft : Int) (wx wm : va_W) (H : Heap) (locs : List Loc) (ls : Array Slot), CW dA b st wx → MW dA mo ft st wm → va_P (dC, dI) vwCl (ocl dA o f :: wm ++ wx) H → va_D A (ocl dA o f :: wm ++ wx) → va_S A s.heap H locs → lv_has ls 7 [(0, .ref sc), (1, .ref b), (2, .ref mo), (3, .ref o), (4, .int (iI (2 * (t : Int))))] → W p l e room_1 s m args below meth c H locs (237 + (t + 1)) (11354 + 6 * (t + 1)) Q (F0 m 343 ls []) := by
        intro st f ft wx wm H locs ls hw hm hP hD hS hl
        refine lv_iinc (k := 4) (lv' := [(4, .int (iI (2 * (t : Int) + 2))), (0, .ref sc), (1, .ref b), (2, .ref mo), (3, .ref o)]) (v := iI (2 * (t : Int) + 2)) hx hb dLaw_343 hl rfl (iI_add _ _).symm (by decide) rfl (fun ls hl => ?_)
        refine lv_goto (tgt := 23) hx hb dLaw_346 (by decide) ?_
        exact ih (t + 1) st f ft wx wm H locs ls (by omega) (by omega) hw hm hP hD hS (by rw [show (2 * ((t + 1 : Nat) : Int)) = 2 * (t : Int) + 2 by omega]; exact lv_sub hl [1, 2, 3, 4, 0] rfl)
      refine lv_aload_n hx hb dLaw_32 rfl (lv_at hl 0 rfl) ?_
      refine lv_iload hx hb dLaw_33 (lv_at hl 4 rfl) ?_
      refine va_sld hx hb hscr hsc hscA hS (iI_vp (z := 2 * (t : Int)) (n := L) (by omega) (by omega) (by omega)) dLaw_35 ?_
      refine lv_bipush (v := iI 15) hx hb dLaw_36 (by decide) ?_
      refine lv_iand hx hb dLaw_38 ?_
      generalize xs (iI (2 * (t : Int))).toNatClampNeg &&& iI 15 = v
      by_cases hsw : v.toInt < 0 ∨ 9 < v.toInt
      · refine lv_tableOut (tgt := 343) hx hb dLaw_39 hsw (by decide) ?_
        exact W.widen (by omega) (by omega) (hnext st f ft wx wm H locs ls hw hm hP hD hS hl)
      obtain ⟨z1, hz1, hx1⟩ := iI_any (xs (iI (2 * (t : Int) + 1)).toNatClampNeg)
      obtain ⟨ch, hch, hchz⟩ := i2c_ch (iI z1)
      have hk9 : v.toInt = 0 ∨ v.toInt = 1 ∨ v.toInt = 2 ∨ v.toInt = 3 ∨ v.toInt = 4 ∨ v.toInt = 5 ∨ v.toInt = 6 ∨ v.toInt = 7 ∨ v.toInt = 8 ∨ v.toInt = 9 := by omega
      rcases hk9 with hk9 | hk9 | hk9 | hk9 | hk9 | hk9 | hk9 | hk9 | hk9 | hk9
      · refine lv_tableIn (off := 53) (tgt := 92) hx hb dLaw_39 (by omega) (by omega) (by rw [hk9]; rfl) (by decide) ?_
        clear hk9 hsw ih
        refine lv_aload_n hx hb dLaw_92 rfl (lv_at hl 1 rfl) ?_
        refine lv_aload_n hx hb dLaw_93 rfl (lv_at hl 0 rfl) ?_
        refine lv_iload hx hb dLaw_94 (lv_at hl 4 rfl) ?_
        refine lv_iconst (v := iI 1) hx hb dLaw_96 rfl ?_
        refine iv_iadd hx hb dLaw_97 ?_
        refine va_sld hx hb hscr hsc hscA hS (iI_vp (z := 2 * (t : Int) + 1) (n := L) (by omega) (by omega) (by omega)) dLaw_98 ?_
        rw [hx1]
        refine lv_i2c hx hb dLaw_99 hchz ?_
        obtain ⟨fx, hfx⟩ := CW_hd hw
        refine cvE_i (wr := ocl dA o f :: wm) (wc := wx) (va_runV (C := "MacroReckoner") (As := [.int (iI ch)]) (rest := []) ⟨hx, hb, hml, hown, hts⟩ (pMr_type l dC dI dA dS b ch st wx hw hch H.size) (cwV 1 hts (gdV wt1_207 wt1_208 wt1_209 wt1_1 wt1_210) rfl rfl rfl ⟨rfl, by decide, by decide, by decide +kernel⟩ ⟨by decide, by decide⟩) (preVE (wr := ocl dA o f :: wm) (q := ("MacroReckoner", TMr, 11)) hK hP hD hS hA (XC_ok dS) hXM.1 hfx rfl) rfl rfl hl.1 rfl (lv_room (Nat.le_of_ble_eq_true rfl)) dLaw_100 ⟨by show _ ≤ 601024; omega, by show _ ≤ 7293034; omega⟩) hP hD hS hA (fun z wx H locs hp hP hD hS => ?_)
        obtain ⟨rfl, hw⟩ := hp
        clear hfx
        refine lv_aload_n hx hb dLaw_103 rfl (lv_at hl 2 rfl) ?_
        refine lv_aload_n hx hb dLaw_104 rfl (lv_at hl 0 rfl) ?_
        refine lv_iload hx hb dLaw_105 (lv_at hl 4 rfl) ?_
        refine lv_iconst (v := iI 1) hx hb dLaw_107 rfl ?_
        refine iv_iadd hx hb dLaw_108 ?_
        refine va_sld hx hb hscr hsc hscA hS (iI_vp (z := 2 * (t : Int) + 1) (n := L) (by omega) (by omega) (by omega)) dLaw_109 ?_
        rw [hx1]
        refine lv_i2c hx hb dLaw_110 hchz ?_
        have hP : va_P (dC, dI) vwCl (ocl dA o f :: wx ++ wm) H := va_P_pm (ws := ocl dA o f :: (wm ++ wx)) (ws' := ocl dA o f :: (wx ++ wm)) (List.perm_append_comm.cons _) hP
        have hD : va_D A (ocl dA o f :: wx ++ wm) := va_D_pm (ws := ocl dA o f :: (wm ++ wx)) (ws' := ocl dA o f :: (wx ++ wm)) (List.perm_append_comm.cons _) hD
        obtain ⟨fm, hfm⟩ := MW_hd hm
        refine cvE_i (wr := ocl dA o f :: wx) (wc := wm) (va_runV (C := "MacroReckonerModel") (As := [.int (iI ch)]) (rest := [.int (iI (typA st ch).1)]) ⟨hx, hb, hml, hown, hts⟩ (pMo_type l dC dI dA mo ch ft st wm hm hch H.size) (cwV 1 hts (gdV wt4_133 wt4_134 wt4_135 wt1_8 wt4_136) rfl rfl rfl ⟨rfl, by decide, by decide, by decide +kernel⟩ ⟨by decide, by decide⟩) (preVE (wr := ocl dA o f :: wx) (q := ("MacroReckonerModel", TMo, 23)) hK hP hD hS hA XN_ok trivial hfm rfl) rfl rfl hl.1 rfl (lv_room (Nat.le_of_ble_eq_true rfl)) dLaw_111 ⟨by show _ ≤ 601024; omega, by show _ ≤ 7293034; omega⟩) hP hD hS hA (fun z wm H locs hp hP hD hS => ?_)
        obtain ⟨rfl, hm⟩ := hp
        clear hfm
        have hP : va_P (dC, dI) vwCl (ocl dA o f :: wm ++ wx) H := va_P_pm (ws := ocl dA o f :: (wx ++ wm)) (ws' := ocl dA o f :: (wm ++ wx)) (List.perm_append_comm.cons _) hP
        have hD : va_D A (ocl dA o f :: wm ++ wx) := va_D_pm (ws := ocl dA o f :: (wx ++ wm)) (ws' := ocl dA o f :: (wm ++ wx)) (List.perm_append_comm.cons _) hD
        refine icm_eq (tgt := 343) hx hb dLaw_114 (by decide) ?_
        exact W.widen (by omega) (by omega) (hnext (typA st ch).2 f 0 wx wm H locs ls hw hm hP hD hS (lv_sub hl [0, 1, 2, 3, 4] rfl))
      · refine lv_tableIn (off := 80) (tgt := 119) hx hb dLaw_39 (by omega) (by omega) (by rw [hk9]; rfl) (by decide) ?_
        clear hk9 hsw ih
        by_cases hg : 1 ≤ z1 ∧ z1 ≤ 100
        · skip
          refine lv_aload_n hx hb dLaw_119 rfl (lv_at hl 1 rfl) ?_
          refine lv_aload_n hx hb dLaw_120 rfl (lv_at hl 0 rfl) ?_
          refine lv_iload hx hb dLaw_121 (lv_at hl 4 rfl) ?_
          refine lv_iconst (v := iI 1) hx hb dLaw_123 rfl ?_
          refine iv_iadd hx hb dLaw_124 ?_
          refine va_sld hx hb hscr hsc hscA hS (iI_vp (z := 2 * (t : Int) + 1) (n := L) (by omega) (by omega) (by omega)) dLaw_125 ?_
          rw [hx1]
          refine lv_aload_n hx hb dLaw_126 rfl (lv_at hl 3 rfl) ?_
          have hP : va_P (dC, dI) vwCl (wm ++ ocl dA o f :: wx) H := va_P_pm (ws := ocl dA o f :: (wm ++ wx)) List.perm_middle.symm hP
          have hD : va_D A (wm ++ ocl dA o f :: wx) := va_D_pm (ws := ocl dA o f :: (wm ++ wx)) List.perm_middle.symm hD
          refine cvE_i (wr := wm) (wc := ocl dA o f :: wx) (va_runSW (n := 3) (As := [.ref b, .int (iI z1), .ref o]) (rest := []) ⟨hx, hb, hml, hown, hts⟩ (pLa_run_g l dC dI dA dS ad b o z1 f st wx hw hg H.size) (gd wt2_31) rfl rfl rfl (hts _ wt2_30) (hts _ wt1_0) (hts _ wt2_29) ⟨by decide, by decide, by decide +kernel⟩ ⟨by decide, by decide⟩ (preE (wr := wm) hK hP hD hS hA (XM_ok dS ad) hXM) rfl rfl hl.1 rfl (lv_room (Nat.le_of_ble_eq_true rfl)) dLaw_127 ⟨by show _ ≤ 601024; omega, by show _ ≤ 7293034; omega⟩) hP hD hS hA (fun z w1 H locs hp hP hD hS => ?_)
          obtain ⟨rfl, f1, wx, rfl, hf1, hw⟩ := hp
          have hP : va_P (dC, dI) vwCl (ocl dA o f1 :: wm ++ wx) H := va_P_pm (ws' := ocl dA o f1 :: (wm ++ wx)) List.perm_middle hP
          have hD : va_D A (ocl dA o f1 :: wm ++ wx) := va_D_pm (ws' := ocl dA o f1 :: (wm ++ wx)) List.perm_middle hD
          refine lv_istore (lv' := [(5, .int (iI 0)), (0, .ref sc), (1, .ref b), (2, .ref mo), (3, .ref o), (4, .int (iI (2 * (t : Int))))]) hx hb dLaw_130 hl (by decide) rfl (fun ls hl => ?_)
          refine lv_aload_n hx hb dLaw_132 rfl (lv_at hl 3 rfl) ?_
          refine lv_aload_n hx hb dLaw_133 rfl (lv_at hl 1 rfl) ?_
          refine lv_iload hx hb dLaw_134 (lv_at hl 5 rfl) ?_
          refine lv_iconst (v := iI 1) hx hb dLaw_136 rfl ?_
          refine iv_iadd hx hb dLaw_137 ?_
          refine va_sld hx hb hscr hsc hscA hS (iI_vp (z := 2 * (t : Int) + 1) (n := L) (by omega) (by omega) (by omega)) dLaw_138 ?_
          rw [hx1]
          have hP : va_P (dC, dI) vwCl (ocl dA o f1 :: wx ++ wm) H := va_P_pm (ws := ocl dA o f1 :: (wm ++ wx)) (ws' := ocl dA o f1 :: (wx ++ wm)) (List.perm_append_comm.cons _) hP
          have hD : va_D A (ocl dA o f1 :: wx ++ wm) := va_D_pm (ws := ocl dA o f1 :: (wm ++ wx)) (ws' := ocl dA o f1 :: (wx ++ wm)) (List.perm_append_comm.cons _) hD
          obtain ⟨fm, hfm⟩ := MW_hd hm
          refine cvE_i (wr := ocl dA o f1 :: wx) (wc := wm) (va_runV (C := "MacroReckonerModel") (As := [.int (iI z1)]) (rest := []) ⟨hx, hb, hml, hown, hts⟩ (pMo_run l dC dI dA mo z1 ft st wm hm hz1 H.size) (cwV 1 hts (gdV wt4_137 wt4_138 wt4_139 wt1_8 wt4_140) rfl rfl rfl ⟨rfl, by decide, by decide, by decide +kernel⟩ ⟨by decide, by decide⟩) (preVE (wr := ocl dA o f1 :: wx) (q := ("MacroReckonerModel", TMo, 23)) hK hP hD hS hA XN_ok trivial hfm rfl) rfl rfl hl.1 rfl (lv_room (Nat.le_of_ble_eq_true rfl)) dLaw_139 ⟨by show _ ≤ 601024; omega, by show _ ≤ 7293034; omega⟩) hP hD hS hA (fun z wm H locs hp hP hD hS => ?_)
          obtain ⟨rfl, hm⟩ := (hp.resolve_left (fun q => by have h8 := q.1; omega)).2.2
          clear hfm
          have hP : va_P (dC, dI) vwCl (ocl dA o f1 :: wm ++ wx) H := va_P_pm (ws := ocl dA o f1 :: (wx ++ wm)) (ws' := ocl dA o f1 :: (wm ++ wx)) (List.perm_append_comm.cons _) hP
          have hD : va_D A (ocl dA o f1 :: wm ++ wx) := va_D_pm (ws := ocl dA o f1 :: (wx ++ wm)) (ws' := ocl dA o f1 :: (wm ++ wx)) (List.perm_append_comm.cons _) hD
          refine lv_istore (lv' := [(6, .int (iI (ansA (lopA (strA st) z1.toNat)))), (5, .int (iI 0)), (0, .ref sc), (1, .ref b), (2, .ref mo), (3, .ref o), (4, .int (iI (2 * (t : Int))))]) hx hb dLaw_142 hl (by decide) rfl (fun ls hl => ?_)
          refine lv_aload_n hx hb dLaw_144 rfl (lv_at hl 4 rfl) ?_
          have hP : va_P (dC, dI) vwCl (ocl dA o f1 :: wx ++ wm) H := va_P_pm (ws := ocl dA o f1 :: (wm ++ wx)) (ws' := ocl dA o f1 :: (wx ++ wm)) (List.perm_append_comm.cons _) hP
          have hD : va_D A (ocl dA o f1 :: wx ++ wm) := va_D_pm (ws := ocl dA o f1 :: (wm ++ wx)) (ws' := ocl dA o f1 :: (wx ++ wm)) (List.perm_append_comm.cons _) hD
          obtain ⟨fm, hfm⟩ := MW_hd hm
          refine cvE_i (wr := ocl dA o f1 :: wx) (wc := wm) (va_runV (C := "MacroReckonerModel") (As := []) (rest := []) ⟨hx, hb, hml, hown, hts⟩ (pMo_thrown l dC dI dA mo 0 (lopA (strA st) z1.toNat).2 wm hm  H.size) (cwV 0 hts (gdV wt4_129 wt4_130 wt4_131 wt1_8 wt4_132) rfl rfl rfl ⟨rfl, by decide, by decide, by decide +kernel⟩ ⟨by decide, by decide⟩) (preVE (wr := ocl dA o f1 :: wx) (q := ("MacroReckonerModel", TMo, 23)) hK hP hD hS hA XN_ok trivial hfm rfl) rfl rfl hl.1 rfl (lv_room (Nat.le_of_ble_eq_true rfl)) dLaw_145 ⟨by show _ ≤ 601024; omega, by show _ ≤ 7293034; omega⟩) hP hD hS hA (fun z wm H locs hp hP hD hS => ?_)
          obtain ⟨rfl, hm⟩ := hp
          clear hfm
          have hP : va_P (dC, dI) vwCl (ocl dA o f1 :: wm ++ wx) H := va_P_pm (ws := ocl dA o f1 :: (wx ++ wm)) (ws' := ocl dA o f1 :: (wm ++ wx)) (List.perm_append_comm.cons _) hP
          have hD : va_D A (ocl dA o f1 :: wm ++ wx) := va_D_pm (ws := ocl dA o f1 :: (wx ++ wm)) (ws' := ocl dA o f1 :: (wm ++ wx)) (List.perm_append_comm.cons _) hD
          refine lv_iload hx hb dLaw_148 (lv_at hl 1 rfl) ?_
          refine icm_eq (tgt := 155) hx hb dLaw_150 (by decide) ?_
          refine lv_iload hx hb dLaw_155 (lv_at hl 1 rfl) ?_
          refine iv_if_ne (tgt := 172) (x := 0) hx hb dLaw_157 (by decide) ⟨by decide, by decide⟩ (fun h9 => absurd rfl h9) (fun _ => ?_)
          refine lv_aload_n hx hb dLaw_160 rfl (lv_at hl 5 rfl) ?_
          refine lv_iconst (v := iI 0) hx hb dLaw_161 rfl ?_
          refine va_lald (f := f1) (n := 1) hx hb hK hP 0 3 rfl rfl (iI_vp (z := 0) (n := 1) (by decide) (by decide) (by decide)) dLaw_162 ?_
          rw [cl0, hf1]
          refine lv_iload hx hb dLaw_163 (lv_at hl 0 rfl) ?_
          refine lv_i2l (v := (iI (ansA (lopA (strA st) z1.toNat))).toInt64) hx hb dLaw_165 rfl ?_
          refine lcm_eq (tgt := 172) hx hb dLaw_166 dLaw_167 (by decide) ?_
          refine lv_goto (tgt := 343) hx hb dLaw_172 (by decide) ?_
          exact W.widen (by omega) (by omega) (hnext (lopA (strA st) z1.toNat).2 f1 0 wx wm H locs ls hw hm hP hD hS (lv_sub hl [2, 3, 4, 5, 6] rfl))
        · have hbd : z1 < 1 ∨ 100 < z1 := by omega
          refine lv_aload_n hx hb dLaw_119 rfl (lv_at hl 1 rfl) ?_
          refine lv_aload_n hx hb dLaw_120 rfl (lv_at hl 0 rfl) ?_
          refine lv_iload hx hb dLaw_121 (lv_at hl 4 rfl) ?_
          refine lv_iconst (v := iI 1) hx hb dLaw_123 rfl ?_
          refine iv_iadd hx hb dLaw_124 ?_
          refine va_sld hx hb hscr hsc hscA hS (iI_vp (z := 2 * (t : Int) + 1) (n := L) (by omega) (by omega) (by omega)) dLaw_125 ?_
          rw [hx1]
          refine lv_aload_n hx hb dLaw_126 rfl (lv_at hl 3 rfl) ?_
          have hP : va_P (dC, dI) vwCl (wm ++ ocl dA o f :: wx) H := va_P_pm (ws := ocl dA o f :: (wm ++ wx)) List.perm_middle.symm hP
          have hD : va_D A (wm ++ ocl dA o f :: wx) := va_D_pm (ws := ocl dA o f :: (wm ++ wx)) List.perm_middle.symm hD
          refine cvE_i (wr := wm) (wc := ocl dA o f :: wx) (va_runSW (n := 3) (As := [.ref b, .int (iI z1), .ref o]) (rest := []) ⟨hx, hb, hml, hown, hts⟩ (pLa_run_b l hfl dC dI dA dS ad b o z1 f st wx hw hz1 hbd H.size) (gd wt2_31) rfl rfl rfl (hts _ wt2_30) (hts _ wt1_0) (hts _ wt2_29) ⟨by decide, by decide, by decide +kernel⟩ ⟨by decide, by decide⟩ (preE (wr := wm) hK hP hD hS hA XE_ok hXE) rfl rfl hl.1 rfl (lv_room (Nat.le_of_ble_eq_true rfl)) dLaw_127 ⟨by show _ ≤ 601024; omega, by show _ ≤ 7293034; omega⟩) hP hD hS hA (fun z w1 H locs hp hP hD hS => ?_)
          obtain ⟨rfl, rfl⟩ := hp
          have hP : va_P (dC, dI) vwCl (ocl dA o f :: wm ++ wx) H := va_P_pm (ws' := ocl dA o f :: (wm ++ wx)) List.perm_middle hP
          have hD : va_D A (ocl dA o f :: wm ++ wx) := va_D_pm (ws' := ocl dA o f :: (wm ++ wx)) List.perm_middle hD
          refine lv_istore (lv' := [(5, .int (iI 1)), (0, .ref sc), (1, .ref b), (2, .ref mo), (3, .ref o), (4, .int (iI (2 * (t : Int))))]) hx hb dLaw_130 hl (by decide) rfl (fun ls hl => ?_)
          refine lv_aload_n hx hb dLaw_132 rfl (lv_at hl 3 rfl) ?_
          refine lv_aload_n hx hb dLaw_133 rfl (lv_at hl 1 rfl) ?_
          refine lv_iload hx hb dLaw_134 (lv_at hl 5 rfl) ?_
          refine lv_iconst (v := iI 1) hx hb dLaw_136 rfl ?_
          refine iv_iadd hx hb dLaw_137 ?_
          refine va_sld hx hb hscr hsc hscA hS (iI_vp (z := 2 * (t : Int) + 1) (n := L) (by omega) (by omega) (by omega)) dLaw_138 ?_
          rw [hx1]
          have hP : va_P (dC, dI) vwCl (ocl dA o f :: wx ++ wm) H := va_P_pm (ws := ocl dA o f :: (wm ++ wx)) (ws' := ocl dA o f :: (wx ++ wm)) (List.perm_append_comm.cons _) hP
          have hD : va_D A (ocl dA o f :: wx ++ wm) := va_D_pm (ws := ocl dA o f :: (wm ++ wx)) (ws' := ocl dA o f :: (wx ++ wm)) (List.perm_append_comm.cons _) hD
          obtain ⟨fm, hfm⟩ := MW_hd hm
          refine cvE_i (wr := ocl dA o f :: wx) (wc := wm) (va_runV (C := "MacroReckonerModel") (As := [.int (iI z1)]) (rest := []) ⟨hx, hb, hml, hown, hts⟩ (pMo_run l dC dI dA mo z1 ft st wm hm hz1 H.size) (cwV 1 hts (gdV wt4_137 wt4_138 wt4_139 wt1_8 wt4_140) rfl rfl rfl ⟨rfl, by decide, by decide, by decide +kernel⟩ ⟨by decide, by decide⟩) (preVE (wr := ocl dA o f :: wx) (q := ("MacroReckonerModel", TMo, 23)) hK hP hD hS hA XN_ok trivial hfm rfl) rfl rfl hl.1 rfl (lv_room (Nat.le_of_ble_eq_true rfl)) dLaw_139 ⟨by show _ ≤ 601024; omega, by show _ ≤ 7293034; omega⟩) hP hD hS hA (fun z wm H locs hp hP hD hS => ?_)
          obtain ⟨rfl, hm⟩ := (hp.resolve_right (fun q => by have h8 := q.1; have h9 := q.2.1; omega)).2
          clear hfm
          have hP : va_P (dC, dI) vwCl (ocl dA o f :: wm ++ wx) H := va_P_pm (ws := ocl dA o f :: (wx ++ wm)) (ws' := ocl dA o f :: (wm ++ wx)) (List.perm_append_comm.cons _) hP
          have hD : va_D A (ocl dA o f :: wm ++ wx) := va_D_pm (ws := ocl dA o f :: (wx ++ wm)) (ws' := ocl dA o f :: (wm ++ wx)) (List.perm_append_comm.cons _) hD
          refine lv_istore (lv' := [(6, .int (iI 0)), (5, .int (iI 1)), (0, .ref sc), (1, .ref b), (2, .ref mo), (3, .ref o), (4, .int (iI (2 * (t : Int))))]) hx hb dLaw_142 hl (by decide) rfl (fun ls hl => ?_)
          refine lv_aload_n hx hb dLaw_144 rfl (lv_at hl 4 rfl) ?_
          have hP : va_P (dC, dI) vwCl (ocl dA o f :: wx ++ wm) H := va_P_pm (ws := ocl dA o f :: (wm ++ wx)) (ws' := ocl dA o f :: (wx ++ wm)) (List.perm_append_comm.cons _) hP
          have hD : va_D A (ocl dA o f :: wx ++ wm) := va_D_pm (ws := ocl dA o f :: (wm ++ wx)) (ws' := ocl dA o f :: (wx ++ wm)) (List.perm_append_comm.cons _) hD
          obtain ⟨fm, hfm⟩ := MW_hd hm
          refine cvE_i (wr := ocl dA o f :: wx) (wc := wm) (va_runV (C := "MacroReckonerModel") (As := []) (rest := []) ⟨hx, hb, hml, hown, hts⟩ (pMo_thrown l dC dI dA mo 1 st wm hm  H.size) (cwV 0 hts (gdV wt4_129 wt4_130 wt4_131 wt1_8 wt4_132) rfl rfl rfl ⟨rfl, by decide, by decide, by decide +kernel⟩ ⟨by decide, by decide⟩) (preVE (wr := ocl dA o f :: wx) (q := ("MacroReckonerModel", TMo, 23)) hK hP hD hS hA XN_ok trivial hfm rfl) rfl rfl hl.1 rfl (lv_room (Nat.le_of_ble_eq_true rfl)) dLaw_145 ⟨by show _ ≤ 601024; omega, by show _ ≤ 7293034; omega⟩) hP hD hS hA (fun z wm H locs hp hP hD hS => ?_)
          obtain ⟨rfl, hm⟩ := hp
          clear hfm
          have hP : va_P (dC, dI) vwCl (ocl dA o f :: wm ++ wx) H := va_P_pm (ws := ocl dA o f :: (wx ++ wm)) (ws' := ocl dA o f :: (wm ++ wx)) (List.perm_append_comm.cons _) hP
          have hD : va_D A (ocl dA o f :: wm ++ wx) := va_D_pm (ws := ocl dA o f :: (wx ++ wm)) (ws' := ocl dA o f :: (wm ++ wx)) (List.perm_append_comm.cons _) hD
          refine lv_iload hx hb dLaw_148 (lv_at hl 1 rfl) ?_
          refine icm_eq (tgt := 155) hx hb dLaw_150 (by decide) ?_
          refine lv_iload hx hb dLaw_155 (lv_at hl 1 rfl) ?_
          refine iv_if_ne (tgt := 172) (x := 1) hx hb dLaw_157 (by decide) ⟨by decide, by decide⟩ (fun _ => ?_) (fun h9 => absurd h9 (by decide))
          refine lv_goto (tgt := 343) hx hb dLaw_172 (by decide) ?_
          exact W.widen (by omega) (by omega) (hnext st f 1 wx wm H locs ls hw hm hP hD hS (lv_sub hl [2, 3, 4, 5, 6] rfl))
      · refine lv_tableIn (off := 136) (tgt := 175) hx hb dLaw_39 (by omega) (by omega) (by rw [hk9]; rfl) (by decide) ?_
        clear hk9 hsw ih
        refine lv_aload_n hx hb dLaw_175 rfl (lv_at hl 1 rfl) ?_
        obtain ⟨fx, hfx⟩ := CW_hd hw
        refine cvE_i (wr := ocl dA o f :: wm) (wc := wx) (va_runV (C := "MacroReckoner") (As := []) (rest := []) ⟨hx, hb, hml, hown, hts⟩ (pMr_drop l dC dI dA dS b st wx hw  H.size) (cwV 0 hts (gdV wt1_218 wt1_219 wt1_220 wt1_1 wt1_221) rfl rfl rfl ⟨rfl, by decide, by decide, by decide +kernel⟩ ⟨by decide, by decide⟩) (preVE (wr := ocl dA o f :: wm) (q := ("MacroReckoner", TMr, 11)) hK hP hD hS hA (XC_ok dS) hXM.1 hfx rfl) rfl rfl hl.1 rfl (lv_room (Nat.le_of_ble_eq_true rfl)) dLaw_176 ⟨by show _ ≤ 601024; omega, by show _ ≤ 7293034; omega⟩) hP hD hS hA (fun z wx H locs hp hP hD hS => ?_)
        obtain ⟨rfl, hw⟩ := hp
        clear hfx
        refine lv_aload_n hx hb dLaw_179 rfl (lv_at hl 2 rfl) ?_
        have hP : va_P (dC, dI) vwCl (ocl dA o f :: wx ++ wm) H := va_P_pm (ws := ocl dA o f :: (wm ++ wx)) (ws' := ocl dA o f :: (wx ++ wm)) (List.perm_append_comm.cons _) hP
        have hD : va_D A (ocl dA o f :: wx ++ wm) := va_D_pm (ws := ocl dA o f :: (wm ++ wx)) (ws' := ocl dA o f :: (wx ++ wm)) (List.perm_append_comm.cons _) hD
        obtain ⟨fm, hfm⟩ := MW_hd hm
        refine cvE_i (wr := ocl dA o f :: wx) (wc := wm) (va_runV (C := "MacroReckonerModel") (As := []) (rest := [.int (iI st.il)]) ⟨hx, hb, hml, hown, hts⟩ (pMo_drop l dC dI dA mo ft st wm hm  H.size) (cwV 0 hts (gdV wt5_97 wt5_98 wt5_99 wt1_8 wt5_100) rfl rfl rfl ⟨rfl, by decide, by decide, by decide +kernel⟩ ⟨by decide, by decide⟩) (preVE (wr := ocl dA o f :: wx) (q := ("MacroReckonerModel", TMo, 23)) hK hP hD hS hA XN_ok trivial hfm rfl) rfl rfl hl.1 rfl (lv_room (Nat.le_of_ble_eq_true rfl)) dLaw_180 ⟨by show _ ≤ 601024; omega, by show _ ≤ 7293034; omega⟩) hP hD hS hA (fun z wm H locs hp hP hD hS => ?_)
        obtain ⟨rfl, hm⟩ := hp
        clear hfm
        have hP : va_P (dC, dI) vwCl (ocl dA o f :: wm ++ wx) H := va_P_pm (ws := ocl dA o f :: (wx ++ wm)) (ws' := ocl dA o f :: (wm ++ wx)) (List.perm_append_comm.cons _) hP
        have hD : va_D A (ocl dA o f :: wm ++ wx) := va_D_pm (ws := ocl dA o f :: (wx ++ wm)) (ws' := ocl dA o f :: (wm ++ wx)) (List.perm_append_comm.cons _) hD
        refine icm_eq (tgt := 343) hx hb dLaw_183 (by decide) ?_
        exact W.widen (by omega) (by omega) (hnext (drpA st) f 0 wx wm H locs ls hw hm hP hD hS (lv_sub hl [0, 1, 2, 3, 4] rfl))
      · refine lv_tableIn (off := 149) (tgt := 188) hx hb dLaw_39 (by omega) (by omega) (by rw [hk9]; rfl) (by decide) ?_
        clear hk9 hsw ih
        refine lv_aload_n hx hb dLaw_188 rfl (lv_at hl 1 rfl) ?_
        obtain ⟨fx, hfx⟩ := CW_hd hw
        refine cvE_i (wr := ocl dA o f :: wm) (wc := wx) (va_runV (C := "MacroReckoner") (As := []) (rest := []) ⟨hx, hb, hml, hown, hts⟩ (pMr_depth l dC dI dA dS b st wx hw  H.size) (cwV 0 hts (gdV wt1_230 wt1_231 wt1_232 wt1_1 wt1_233) rfl rfl rfl ⟨rfl, by decide, by decide, by decide +kernel⟩ ⟨by decide, by decide⟩) (preVE (wr := ocl dA o f :: wm) (q := ("MacroReckoner", TMr, 11)) hK hP hD hS hA (XC_ok dS) hXM.1 hfx rfl) rfl rfl hl.1 rfl (lv_room (Nat.le_of_ble_eq_true rfl)) dLaw_189 ⟨by show _ ≤ 601024; omega, by show _ ≤ 7293034; omega⟩) hP hD hS hA (fun z wx H locs hp hP hD hS => ?_)
        obtain ⟨rfl, hw⟩ := hp
        clear hfx
        refine lv_aload_n hx hb dLaw_192 rfl (lv_at hl 2 rfl) ?_
        have hP : va_P (dC, dI) vwCl (ocl dA o f :: wx ++ wm) H := va_P_pm (ws := ocl dA o f :: (wm ++ wx)) (ws' := ocl dA o f :: (wx ++ wm)) (List.perm_append_comm.cons _) hP
        have hD : va_D A (ocl dA o f :: wx ++ wm) := va_D_pm (ws := ocl dA o f :: (wm ++ wx)) (ws' := ocl dA o f :: (wx ++ wm)) (List.perm_append_comm.cons _) hD
        obtain ⟨fm, hfm⟩ := MW_hd hm
        refine cvE_i (wr := ocl dA o f :: wx) (wc := wm) (va_runV (C := "MacroReckonerModel") (As := []) (rest := [.int (iI st.h)]) ⟨hx, hb, hml, hown, hts⟩ (pMo_depth l dC dI dA mo ft st wm hm  H.size) (cwV 0 hts (gdV wt5_101 wt5_102 wt5_103 wt1_8 wt5_104) rfl rfl rfl ⟨rfl, by decide, by decide, by decide +kernel⟩ ⟨by decide, by decide⟩) (preVE (wr := ocl dA o f :: wx) (q := ("MacroReckonerModel", TMo, 23)) hK hP hD hS hA XN_ok trivial hfm rfl) rfl rfl hl.1 rfl (lv_room (Nat.le_of_ble_eq_true rfl)) dLaw_193 ⟨by show _ ≤ 601024; omega, by show _ ≤ 7293034; omega⟩) hP hD hS hA (fun z wm H locs hp hP hD hS => ?_)
        obtain ⟨rfl, hm⟩ := hp
        clear hfm
        have hP : va_P (dC, dI) vwCl (ocl dA o f :: wm ++ wx) H := va_P_pm (ws := ocl dA o f :: (wx ++ wm)) (ws' := ocl dA o f :: (wm ++ wx)) (List.perm_append_comm.cons _) hP
        have hD : va_D A (ocl dA o f :: wm ++ wx) := va_D_pm (ws := ocl dA o f :: (wx ++ wm)) (ws' := ocl dA o f :: (wm ++ wx)) (List.perm_append_comm.cons _) hD
        refine icm_eq (tgt := 343) hx hb dLaw_196 (by decide) ?_
        exact W.widen (by omega) (by omega) (hnext st f 0 wx wm H locs ls hw hm hP hD hS (lv_sub hl [0, 1, 2, 3, 4] rfl))
      · refine lv_tableIn (off := 162) (tgt := 201) hx hb dLaw_39 (by omega) (by omega) (by rw [hk9]; rfl) (by decide) ?_
        clear hk9 hsw ih
        refine lv_aload_n hx hb dLaw_201 rfl (lv_at hl 1 rfl) ?_
        obtain ⟨fx, hfx⟩ := CW_hd hw
        refine cvE_i (wr := ocl dA o f :: wm) (wc := wx) (va_runV (C := "MacroReckoner") (As := []) (rest := []) ⟨hx, hb, hml, hown, hts⟩ (pMr_scale l dC dI dA dS b st wx hw  H.size) (cwV 0 hts (gdV wt1_234 wt1_235 wt1_236 wt1_1 wt1_237) rfl rfl rfl ⟨rfl, by decide, by decide, by decide +kernel⟩ ⟨by decide, by decide⟩) (preVE (wr := ocl dA o f :: wm) (q := ("MacroReckoner", TMr, 11)) hK hP hD hS hA (XC_ok dS) hXM.1 hfx rfl) rfl rfl hl.1 rfl (lv_room (Nat.le_of_ble_eq_true rfl)) dLaw_202 ⟨by show _ ≤ 601024; omega, by show _ ≤ 7293034; omega⟩) hP hD hS hA (fun z wx H locs hp hP hD hS => ?_)
        obtain ⟨rfl, hw⟩ := hp
        clear hfx
        refine lv_aload_n hx hb dLaw_205 rfl (lv_at hl 2 rfl) ?_
        have hP : va_P (dC, dI) vwCl (ocl dA o f :: wx ++ wm) H := va_P_pm (ws := ocl dA o f :: (wm ++ wx)) (ws' := ocl dA o f :: (wx ++ wm)) (List.perm_append_comm.cons _) hP
        have hD : va_D A (ocl dA o f :: wx ++ wm) := va_D_pm (ws := ocl dA o f :: (wm ++ wx)) (ws' := ocl dA o f :: (wx ++ wm)) (List.perm_append_comm.cons _) hD
        obtain ⟨fm, hfm⟩ := MW_hd hm
        refine cvE_i (wr := ocl dA o f :: wx) (wc := wm) (va_runV (C := "MacroReckonerModel") (As := []) (rest := [.int (iI st.k)]) ⟨hx, hb, hml, hown, hts⟩ (pMo_scale l dC dI dA mo ft st wm hm  H.size) (cwV 0 hts (gdV wt5_105 wt5_106 wt5_107 wt1_8 wt5_108) rfl rfl rfl ⟨rfl, by decide, by decide, by decide +kernel⟩ ⟨by decide, by decide⟩) (preVE (wr := ocl dA o f :: wx) (q := ("MacroReckonerModel", TMo, 23)) hK hP hD hS hA XN_ok trivial hfm rfl) rfl rfl hl.1 rfl (lv_room (Nat.le_of_ble_eq_true rfl)) dLaw_206 ⟨by show _ ≤ 601024; omega, by show _ ≤ 7293034; omega⟩) hP hD hS hA (fun z wm H locs hp hP hD hS => ?_)
        obtain ⟨rfl, hm⟩ := hp
        clear hfm
        have hP : va_P (dC, dI) vwCl (ocl dA o f :: wm ++ wx) H := va_P_pm (ws := ocl dA o f :: (wx ++ wm)) (ws' := ocl dA o f :: (wm ++ wx)) (List.perm_append_comm.cons _) hP
        have hD : va_D A (ocl dA o f :: wm ++ wx) := va_D_pm (ws := ocl dA o f :: (wx ++ wm)) (ws' := ocl dA o f :: (wm ++ wx)) (List.perm_append_comm.cons _) hD
        refine icm_eq (tgt := 343) hx hb dLaw_209 (by decide) ?_
        exact W.widen (by omega) (by omega) (hnext st f 0 wx wm H locs ls hw hm hP hD hS (lv_sub hl [0, 1, 2, 3, 4] rfl))
      · refine lv_tableIn (off := 175) (tgt := 214) hx hb dLaw_39 (by omega) (by omega) (by rw [hk9]; rfl) (by decide) ?_
        clear hk9 hsw ih
        refine lv_aload_n hx hb dLaw_214 rfl (lv_at hl 1 rfl) ?_
        obtain ⟨fx, hfx⟩ := CW_hd hw
        refine cvE_i (wr := ocl dA o f :: wm) (wc := wx) (va_runV (C := "MacroReckoner") (As := []) (rest := []) ⟨hx, hb, hml, hown, hts⟩ (pMr_running l dC dI dA dS b st wx hw  H.size) (cwV 0 hts (gdV wt1_238 wt1_239 wt2_0 wt1_1 wt2_1) rfl rfl rfl ⟨rfl, by decide, by decide, by decide +kernel⟩ ⟨by decide, by decide⟩) (preVE (wr := ocl dA o f :: wm) (q := ("MacroReckoner", TMr, 11)) hK hP hD hS hA (XC_ok dS) hXM.1 hfx rfl) rfl rfl hl.1 rfl (lv_room (Nat.le_of_ble_eq_true rfl)) dLaw_215 ⟨by show _ ≤ 601024; omega, by show _ ≤ 7293034; omega⟩) hP hD hS hA (fun z wx H locs hp hP hD hS => ?_)
        obtain ⟨rfl, hw⟩ := hp
        clear hfx
        refine lv_aload_n hx hb dLaw_218 rfl (lv_at hl 2 rfl) ?_
        have hP : va_P (dC, dI) vwCl (ocl dA o f :: wx ++ wm) H := va_P_pm (ws := ocl dA o f :: (wm ++ wx)) (ws' := ocl dA o f :: (wx ++ wm)) (List.perm_append_comm.cons _) hP
        have hD : va_D A (ocl dA o f :: wx ++ wm) := va_D_pm (ws := ocl dA o f :: (wm ++ wx)) (ws' := ocl dA o f :: (wx ++ wm)) (List.perm_append_comm.cons _) hD
        obtain ⟨fm, hfm⟩ := MW_hd hm
        refine cvE_i (wr := ocl dA o f :: wx) (wc := wm) (va_runV (C := "MacroReckonerModel") (As := []) (rest := [.int (iI st.tn)]) ⟨hx, hb, hml, hown, hts⟩ (pMo_running l dC dI dA mo ft st wm hm  H.size) (cwV 0 hts (gdV wt5_109 wt5_110 wt5_111 wt1_8 wt5_112) rfl rfl rfl ⟨rfl, by decide, by decide, by decide +kernel⟩ ⟨by decide, by decide⟩) (preVE (wr := ocl dA o f :: wx) (q := ("MacroReckonerModel", TMo, 23)) hK hP hD hS hA XN_ok trivial hfm rfl) rfl rfl hl.1 rfl (lv_room (Nat.le_of_ble_eq_true rfl)) dLaw_219 ⟨by show _ ≤ 601024; omega, by show _ ≤ 7293034; omega⟩) hP hD hS hA (fun z wm H locs hp hP hD hS => ?_)
        obtain ⟨rfl, hm⟩ := hp
        clear hfm
        have hP : va_P (dC, dI) vwCl (ocl dA o f :: wm ++ wx) H := va_P_pm (ws := ocl dA o f :: (wx ++ wm)) (ws' := ocl dA o f :: (wm ++ wx)) (List.perm_append_comm.cons _) hP
        have hD : va_D A (ocl dA o f :: wm ++ wx) := va_D_pm (ws := ocl dA o f :: (wx ++ wm)) (ws' := ocl dA o f :: (wm ++ wx)) (List.perm_append_comm.cons _) hD
        refine icm_eq (tgt := 343) hx hb dLaw_222 (by decide) ?_
        exact W.widen (by omega) (by omega) (hnext st f 0 wx wm H locs ls hw hm hP hD hS (lv_sub hl [0, 1, 2, 3, 4] rfl))
      · refine lv_tableIn (off := 188) (tgt := 227) hx hb dLaw_39 (by omega) (by omega) (by rw [hk9]; rfl) (by decide) ?_
        clear hk9 hsw ih
        by_cases hg : 97 ≤ ch ∧ ch ≤ 122
        · skip
          refine lv_aload_n hx hb dLaw_227 rfl (lv_at hl 1 rfl) ?_
          refine lv_aload_n hx hb dLaw_228 rfl (lv_at hl 0 rfl) ?_
          refine lv_iload hx hb dLaw_229 (lv_at hl 4 rfl) ?_
          refine lv_iconst (v := iI 1) hx hb dLaw_231 rfl ?_
          refine iv_iadd hx hb dLaw_232 ?_
          refine va_sld hx hb hscr hsc hscA hS (iI_vp (z := 2 * (t : Int) + 1) (n := L) (by omega) (by omega) (by omega)) dLaw_233 ?_
          rw [hx1]
          refine lv_i2c hx hb dLaw_234 hchz ?_
          refine lv_aload_n hx hb dLaw_235 rfl (lv_at hl 3 rfl) ?_
          have hP : va_P (dC, dI) vwCl (wm ++ ocl dA o f :: wx) H := va_P_pm (ws := ocl dA o f :: (wm ++ wx)) List.perm_middle.symm hP
          have hD : va_D A (wm ++ ocl dA o f :: wx) := va_D_pm (ws := ocl dA o f :: (wm ++ wx)) List.perm_middle.symm hD
          refine cvE_i (wr := wm) (wc := ocl dA o f :: wx) (va_runSW (n := 3) (As := [.ref b, .int (iI ch), .ref o]) (rest := []) ⟨hx, hb, hml, hown, hts⟩ (pLa_isText_g l dC dI dA dS ad b o ch f st wx hw hg H.size) (gd wt4_47) rfl rfl rfl (hts _ wt4_46) (hts _ wt1_0) (hts _ wt4_45) ⟨by decide, by decide, by decide +kernel⟩ ⟨by decide, by decide⟩ (preE (wr := wm) hK hP hD hS hA (XM_ok dS ad) hXM) rfl rfl hl.1 rfl (lv_room (Nat.le_of_ble_eq_true rfl)) dLaw_236 ⟨by show _ ≤ 601024; omega, by show _ ≤ 7293034; omega⟩) hP hD hS hA (fun z w1 H locs hp hP hD hS => ?_)
          obtain ⟨rfl, f1, wx, rfl, hf1, hw⟩ := hp
          have hP : va_P (dC, dI) vwCl (ocl dA o f1 :: wm ++ wx) H := va_P_pm (ws' := ocl dA o f1 :: (wm ++ wx)) List.perm_middle hP
          have hD : va_D A (ocl dA o f1 :: wm ++ wx) := va_D_pm (ws' := ocl dA o f1 :: (wm ++ wx)) List.perm_middle hD
          refine lv_istore (lv' := [(5, .int (iI 0)), (0, .ref sc), (1, .ref b), (2, .ref mo), (3, .ref o), (4, .int (iI (2 * (t : Int))))]) hx hb dLaw_239 hl (by decide) rfl (fun ls hl => ?_)
          refine lv_aload_n hx hb dLaw_241 rfl (lv_at hl 3 rfl) ?_
          refine lv_aload_n hx hb dLaw_242 rfl (lv_at hl 1 rfl) ?_
          refine lv_iload hx hb dLaw_243 (lv_at hl 5 rfl) ?_
          refine lv_iconst (v := iI 1) hx hb dLaw_245 rfl ?_
          refine iv_iadd hx hb dLaw_246 ?_
          refine va_sld hx hb hscr hsc hscA hS (iI_vp (z := 2 * (t : Int) + 1) (n := L) (by omega) (by omega) (by omega)) dLaw_247 ?_
          rw [hx1]
          refine lv_i2c hx hb dLaw_248 hchz ?_
          have hP : va_P (dC, dI) vwCl (ocl dA o f1 :: wx ++ wm) H := va_P_pm (ws := ocl dA o f1 :: (wm ++ wx)) (ws' := ocl dA o f1 :: (wx ++ wm)) (List.perm_append_comm.cons _) hP
          have hD : va_D A (ocl dA o f1 :: wx ++ wm) := va_D_pm (ws := ocl dA o f1 :: (wm ++ wx)) (ws' := ocl dA o f1 :: (wx ++ wm)) (List.perm_append_comm.cons _) hD
          obtain ⟨fm, hfm⟩ := MW_hd hm
          refine cvE_i (wr := ocl dA o f1 :: wx) (wc := wm) (va_runV (C := "MacroReckonerModel") (As := [.int (iI ch)]) (rest := []) ⟨hx, hb, hml, hown, hts⟩ (pMo_isText l dC dI dA mo ch ft st wm hm hch H.size) (cwV 1 hts (gdV wt5_113 wt5_114 wt5_115 wt1_8 wt5_116) rfl rfl rfl ⟨rfl, by decide, by decide, by decide +kernel⟩ ⟨by decide, by decide⟩) (preVE (wr := ocl dA o f1 :: wx) (q := ("MacroReckonerModel", TMo, 23)) hK hP hD hS hA XN_ok trivial hfm rfl) rfl rfl hl.1 rfl (lv_room (Nat.le_of_ble_eq_true rfl)) dLaw_249 ⟨by show _ ≤ 601024; omega, by show _ ≤ 7293034; omega⟩) hP hD hS hA (fun z wm H locs hp hP hD hS => ?_)
          obtain ⟨rfl, hbo, hm⟩ := (hp.resolve_right (fun q => by have h8 := q.1; omega)).2.2
          clear hfm
          have hP : va_P (dC, dI) vwCl (ocl dA o f1 :: wm ++ wx) H := va_P_pm (ws := ocl dA o f1 :: (wx ++ wm)) (ws' := ocl dA o f1 :: (wm ++ wx)) (List.perm_append_comm.cons _) hP
          have hD : va_D A (ocl dA o f1 :: wm ++ wx) := va_D_pm (ws := ocl dA o f1 :: (wx ++ wm)) (ws' := ocl dA o f1 :: (wm ++ wx)) (List.perm_append_comm.cons _) hD
          refine lv_istore (lv' := [(6, .int (iI (st.reg (ch - 97)).t)), (5, .int (iI 0)), (0, .ref sc), (1, .ref b), (2, .ref mo), (3, .ref o), (4, .int (iI (2 * (t : Int))))]) hx hb dLaw_252 hl (by decide) rfl (fun ls hl => ?_)
          refine lv_aload_n hx hb dLaw_254 rfl (lv_at hl 4 rfl) ?_
          have hP : va_P (dC, dI) vwCl (ocl dA o f1 :: wx ++ wm) H := va_P_pm (ws := ocl dA o f1 :: (wm ++ wx)) (ws' := ocl dA o f1 :: (wx ++ wm)) (List.perm_append_comm.cons _) hP
          have hD : va_D A (ocl dA o f1 :: wx ++ wm) := va_D_pm (ws := ocl dA o f1 :: (wm ++ wx)) (ws' := ocl dA o f1 :: (wx ++ wm)) (List.perm_append_comm.cons _) hD
          obtain ⟨fm, hfm⟩ := MW_hd hm
          refine cvE_i (wr := ocl dA o f1 :: wx) (wc := wm) (va_runV (C := "MacroReckonerModel") (As := []) (rest := []) ⟨hx, hb, hml, hown, hts⟩ (pMo_thrown l dC dI dA mo 0 st wm hm  H.size) (cwV 0 hts (gdV wt4_129 wt4_130 wt4_131 wt1_8 wt4_132) rfl rfl rfl ⟨rfl, by decide, by decide, by decide +kernel⟩ ⟨by decide, by decide⟩) (preVE (wr := ocl dA o f1 :: wx) (q := ("MacroReckonerModel", TMo, 23)) hK hP hD hS hA XN_ok trivial hfm rfl) rfl rfl hl.1 rfl (lv_room (Nat.le_of_ble_eq_true rfl)) dLaw_255 ⟨by show _ ≤ 601024; omega, by show _ ≤ 7293034; omega⟩) hP hD hS hA (fun z wm H locs hp hP hD hS => ?_)
          obtain ⟨rfl, hm⟩ := hp
          clear hfm
          have hP : va_P (dC, dI) vwCl (ocl dA o f1 :: wm ++ wx) H := va_P_pm (ws := ocl dA o f1 :: (wx ++ wm)) (ws' := ocl dA o f1 :: (wm ++ wx)) (List.perm_append_comm.cons _) hP
          have hD : va_D A (ocl dA o f1 :: wm ++ wx) := va_D_pm (ws := ocl dA o f1 :: (wx ++ wm)) (ws' := ocl dA o f1 :: (wm ++ wx)) (List.perm_append_comm.cons _) hD
          refine lv_iload hx hb dLaw_258 (lv_at hl 1 rfl) ?_
          refine icm_eq (tgt := 265) hx hb dLaw_260 (by decide) ?_
          refine lv_iload hx hb dLaw_265 (lv_at hl 1 rfl) ?_
          refine iv_if_ne (tgt := 289) (x := 0) hx hb dLaw_267 (by decide) ⟨by decide, by decide⟩ (fun h9 => absurd rfl h9) (fun _ => ?_)
          refine lv_aload_n hx hb dLaw_270 rfl (lv_at hl 5 rfl) ?_
          refine lv_iconst (v := iI 0) hx hb dLaw_271 rfl ?_
          refine va_lald (f := f1) (n := 1) hx hb hK hP 0 3 rfl rfl (iI_vp (z := 0) (n := 1) (by decide) (by decide) (by decide)) dLaw_272 ?_
          rw [cl0, hf1]
          refine lv_iload hx hb dLaw_273 (lv_at hl 0 rfl) ?_
          refine iv_if_eq (tgt := 282) hx hb dLaw_275 (by decide) ⟨by rcases hbo with q | q <;> omega, by rcases hbo with q | q <;> omega⟩ (fun hq9 => ?_) (fun hq9 => ?_)
          · skip
            rw [hq9]
            refine lv_lconst (v := iL 0) hx hb dLaw_282 rfl ?_
            refine lcm_eq (tgt := 289) hx hb dLaw_283 dLaw_284 (by decide) ?_
            refine lv_goto (tgt := 343) hx hb dLaw_289 (by decide) ?_
            exact W.widen (by omega) (by omega) (hnext st f1 0 wx wm H locs ls hw hm hP hD hS (lv_sub hl [2, 3, 4, 5, 6] rfl))
          · skip
            rw [show (st.reg (ch - 97)).t = 1 by rcases hbo with q | q <;> omega]
            refine lv_lconst (v := iL 1) hx hb dLaw_278 rfl ?_
            refine lv_goto (tgt := 283) hx hb dLaw_279 (by decide) ?_
            refine lcm_eq (tgt := 289) hx hb dLaw_283 dLaw_284 (by decide) ?_
            refine lv_goto (tgt := 343) hx hb dLaw_289 (by decide) ?_
            exact W.widen (by omega) (by omega) (hnext st f1 0 wx wm H locs ls hw hm hP hD hS (lv_sub hl [2, 3, 4, 5, 6] rfl))
        · have hbd : ch < 97 ∨ 122 < ch := by omega
          refine lv_aload_n hx hb dLaw_227 rfl (lv_at hl 1 rfl) ?_
          refine lv_aload_n hx hb dLaw_228 rfl (lv_at hl 0 rfl) ?_
          refine lv_iload hx hb dLaw_229 (lv_at hl 4 rfl) ?_
          refine lv_iconst (v := iI 1) hx hb dLaw_231 rfl ?_
          refine iv_iadd hx hb dLaw_232 ?_
          refine va_sld hx hb hscr hsc hscA hS (iI_vp (z := 2 * (t : Int) + 1) (n := L) (by omega) (by omega) (by omega)) dLaw_233 ?_
          rw [hx1]
          refine lv_i2c hx hb dLaw_234 hchz ?_
          refine lv_aload_n hx hb dLaw_235 rfl (lv_at hl 3 rfl) ?_
          have hP : va_P (dC, dI) vwCl (wm ++ ocl dA o f :: wx) H := va_P_pm (ws := ocl dA o f :: (wm ++ wx)) List.perm_middle.symm hP
          have hD : va_D A (wm ++ ocl dA o f :: wx) := va_D_pm (ws := ocl dA o f :: (wm ++ wx)) List.perm_middle.symm hD
          refine cvE_i (wr := wm) (wc := ocl dA o f :: wx) (va_runSW (n := 3) (As := [.ref b, .int (iI ch), .ref o]) (rest := []) ⟨hx, hb, hml, hown, hts⟩ (pLa_isText_b l hfl dC dI dA dS ad b o ch f st wx hw hch hbd H.size) (gd wt4_47) rfl rfl rfl (hts _ wt4_46) (hts _ wt1_0) (hts _ wt4_45) ⟨by decide, by decide, by decide +kernel⟩ ⟨by decide, by decide⟩ (preE (wr := wm) hK hP hD hS hA XE_ok hXE) rfl rfl hl.1 rfl (lv_room (Nat.le_of_ble_eq_true rfl)) dLaw_236 ⟨by show _ ≤ 601024; omega, by show _ ≤ 7293034; omega⟩) hP hD hS hA (fun z w1 H locs hp hP hD hS => ?_)
          obtain ⟨rfl, rfl⟩ := hp
          have hP : va_P (dC, dI) vwCl (ocl dA o f :: wm ++ wx) H := va_P_pm (ws' := ocl dA o f :: (wm ++ wx)) List.perm_middle hP
          have hD : va_D A (ocl dA o f :: wm ++ wx) := va_D_pm (ws' := ocl dA o f :: (wm ++ wx)) List.perm_middle hD
          refine lv_istore (lv' := [(5, .int (iI 1)), (0, .ref sc), (1, .ref b), (2, .ref mo), (3, .ref o), (4, .int (iI (2 * (t : Int))))]) hx hb dLaw_239 hl (by decide) rfl (fun ls hl => ?_)
          refine lv_aload_n hx hb dLaw_241 rfl (lv_at hl 3 rfl) ?_
          refine lv_aload_n hx hb dLaw_242 rfl (lv_at hl 1 rfl) ?_
          refine lv_iload hx hb dLaw_243 (lv_at hl 5 rfl) ?_
          refine lv_iconst (v := iI 1) hx hb dLaw_245 rfl ?_
          refine iv_iadd hx hb dLaw_246 ?_
          refine va_sld hx hb hscr hsc hscA hS (iI_vp (z := 2 * (t : Int) + 1) (n := L) (by omega) (by omega) (by omega)) dLaw_247 ?_
          rw [hx1]
          refine lv_i2c hx hb dLaw_248 hchz ?_
          have hP : va_P (dC, dI) vwCl (ocl dA o f :: wx ++ wm) H := va_P_pm (ws := ocl dA o f :: (wm ++ wx)) (ws' := ocl dA o f :: (wx ++ wm)) (List.perm_append_comm.cons _) hP
          have hD : va_D A (ocl dA o f :: wx ++ wm) := va_D_pm (ws := ocl dA o f :: (wm ++ wx)) (ws' := ocl dA o f :: (wx ++ wm)) (List.perm_append_comm.cons _) hD
          obtain ⟨fm, hfm⟩ := MW_hd hm
          refine cvE_i (wr := ocl dA o f :: wx) (wc := wm) (va_runV (C := "MacroReckonerModel") (As := [.int (iI ch)]) (rest := []) ⟨hx, hb, hml, hown, hts⟩ (pMo_isText l dC dI dA mo ch ft st wm hm hch H.size) (cwV 1 hts (gdV wt5_113 wt5_114 wt5_115 wt1_8 wt5_116) rfl rfl rfl ⟨rfl, by decide, by decide, by decide +kernel⟩ ⟨by decide, by decide⟩) (preVE (wr := ocl dA o f :: wx) (q := ("MacroReckonerModel", TMo, 23)) hK hP hD hS hA XN_ok trivial hfm rfl) rfl rfl hl.1 rfl (lv_room (Nat.le_of_ble_eq_true rfl)) dLaw_249 ⟨by show _ ≤ 601024; omega, by show _ ≤ 7293034; omega⟩) hP hD hS hA (fun z wm H locs hp hP hD hS => ?_)
          obtain ⟨rfl, hm⟩ := (hp.resolve_left (fun q => by have h8 := q.1; have h9 := q.2.1; omega)).2
          clear hfm
          have hP : va_P (dC, dI) vwCl (ocl dA o f :: wm ++ wx) H := va_P_pm (ws := ocl dA o f :: (wx ++ wm)) (ws' := ocl dA o f :: (wm ++ wx)) (List.perm_append_comm.cons _) hP
          have hD : va_D A (ocl dA o f :: wm ++ wx) := va_D_pm (ws := ocl dA o f :: (wx ++ wm)) (ws' := ocl dA o f :: (wm ++ wx)) (List.perm_append_comm.cons _) hD
          refine lv_istore (lv' := [(6, .int (iI 0)), (5, .int (iI 1)), (0, .ref sc), (1, .ref b), (2, .ref mo), (3, .ref o), (4, .int (iI (2 * (t : Int))))]) hx hb dLaw_252 hl (by decide) rfl (fun ls hl => ?_)
          refine lv_aload_n hx hb dLaw_254 rfl (lv_at hl 4 rfl) ?_
          have hP : va_P (dC, dI) vwCl (ocl dA o f :: wx ++ wm) H := va_P_pm (ws := ocl dA o f :: (wm ++ wx)) (ws' := ocl dA o f :: (wx ++ wm)) (List.perm_append_comm.cons _) hP
          have hD : va_D A (ocl dA o f :: wx ++ wm) := va_D_pm (ws := ocl dA o f :: (wm ++ wx)) (ws' := ocl dA o f :: (wx ++ wm)) (List.perm_append_comm.cons _) hD
          obtain ⟨fm, hfm⟩ := MW_hd hm
          refine cvE_i (wr := ocl dA o f :: wx) (wc := wm) (va_runV (C := "MacroReckonerModel") (As := []) (rest := []) ⟨hx, hb, hml, hown, hts⟩ (pMo_thrown l dC dI dA mo 1 st wm hm  H.size) (cwV 0 hts (gdV wt4_129 wt4_130 wt4_131 wt1_8 wt4_132) rfl rfl rfl ⟨rfl, by decide, by decide, by decide +kernel⟩ ⟨by decide, by decide⟩) (preVE (wr := ocl dA o f :: wx) (q := ("MacroReckonerModel", TMo, 23)) hK hP hD hS hA XN_ok trivial hfm rfl) rfl rfl hl.1 rfl (lv_room (Nat.le_of_ble_eq_true rfl)) dLaw_255 ⟨by show _ ≤ 601024; omega, by show _ ≤ 7293034; omega⟩) hP hD hS hA (fun z wm H locs hp hP hD hS => ?_)
          obtain ⟨rfl, hm⟩ := hp
          clear hfm
          have hP : va_P (dC, dI) vwCl (ocl dA o f :: wm ++ wx) H := va_P_pm (ws := ocl dA o f :: (wx ++ wm)) (ws' := ocl dA o f :: (wm ++ wx)) (List.perm_append_comm.cons _) hP
          have hD : va_D A (ocl dA o f :: wm ++ wx) := va_D_pm (ws := ocl dA o f :: (wx ++ wm)) (ws' := ocl dA o f :: (wm ++ wx)) (List.perm_append_comm.cons _) hD
          refine lv_iload hx hb dLaw_258 (lv_at hl 1 rfl) ?_
          refine icm_eq (tgt := 265) hx hb dLaw_260 (by decide) ?_
          refine lv_iload hx hb dLaw_265 (lv_at hl 1 rfl) ?_
          refine iv_if_ne (tgt := 289) (x := 1) hx hb dLaw_267 (by decide) ⟨by decide, by decide⟩ (fun _ => ?_) (fun h9 => absurd h9 (by decide))
          refine lv_goto (tgt := 343) hx hb dLaw_289 (by decide) ?_
          exact W.widen (by omega) (by omega) (hnext st f 1 wx wm H locs ls hw hm hP hD hS (lv_sub hl [2, 3, 4, 5, 6] rfl))
      · refine lv_tableIn (off := 253) (tgt := 292) hx hb dLaw_39 (by omega) (by omega) (by rw [hk9]; rfl) (by decide) ?_
        clear hk9 hsw ih
        refine lv_aload_n hx hb dLaw_292 rfl (lv_at hl 1 rfl) ?_
        obtain ⟨fx, hfx⟩ := CW_hd hw
        refine cvE_i (wr := ocl dA o f :: wm) (wc := wx) (va_runV (C := "MacroReckoner") (As := []) (rest := []) ⟨hx, hb, hml, hown, hts⟩ (pMr_printed l dC dI dA dS b st wx hw  H.size) (cwV 0 hts (gdV wt2_13 wt2_14 wt2_15 wt1_1 wt2_16) rfl rfl rfl ⟨rfl, by decide, by decide, by decide +kernel⟩ ⟨by decide, by decide⟩) (preVE (wr := ocl dA o f :: wm) (q := ("MacroReckoner", TMr, 11)) hK hP hD hS hA (XC_ok dS) hXM.1 hfx rfl) rfl rfl hl.1 rfl (lv_room (Nat.le_of_ble_eq_true rfl)) dLaw_293 ⟨by show _ ≤ 601024; omega, by show _ ≤ 7293034; omega⟩) hP hD hS hA (fun z wx H locs hp hP hD hS => ?_)
        obtain ⟨rfl, hw⟩ := hp
        clear hfx
        refine lv_aload_n hx hb dLaw_296 rfl (lv_at hl 2 rfl) ?_
        have hP : va_P (dC, dI) vwCl (ocl dA o f :: wx ++ wm) H := va_P_pm (ws := ocl dA o f :: (wm ++ wx)) (ws' := ocl dA o f :: (wx ++ wm)) (List.perm_append_comm.cons _) hP
        have hD : va_D A (ocl dA o f :: wx ++ wm) := va_D_pm (ws := ocl dA o f :: (wm ++ wx)) (ws' := ocl dA o f :: (wx ++ wm)) (List.perm_append_comm.cons _) hD
        obtain ⟨fm, hfm⟩ := MW_hd hm
        refine cvE_i (wr := ocl dA o f :: wx) (wc := wm) (va_runV (C := "MacroReckonerModel") (As := []) (rest := [.int (iI st.pl)]) ⟨hx, hb, hml, hown, hts⟩ (pMo_printed l dC dI dA mo ft st wm hm  H.size) (cwV 0 hts (gdV wt5_117 wt5_118 wt5_119 wt1_8 wt5_120) rfl rfl rfl ⟨rfl, by decide, by decide, by decide +kernel⟩ ⟨by decide, by decide⟩) (preVE (wr := ocl dA o f :: wx) (q := ("MacroReckonerModel", TMo, 23)) hK hP hD hS hA XN_ok trivial hfm rfl) rfl rfl hl.1 rfl (lv_room (Nat.le_of_ble_eq_true rfl)) dLaw_297 ⟨by show _ ≤ 601024; omega, by show _ ≤ 7293034; omega⟩) hP hD hS hA (fun z wm H locs hp hP hD hS => ?_)
        obtain ⟨rfl, hm⟩ := hp
        clear hfm
        have hP : va_P (dC, dI) vwCl (ocl dA o f :: wm ++ wx) H := va_P_pm (ws := ocl dA o f :: (wx ++ wm)) (ws' := ocl dA o f :: (wm ++ wx)) (List.perm_append_comm.cons _) hP
        have hD : va_D A (ocl dA o f :: wm ++ wx) := va_D_pm (ws := ocl dA o f :: (wx ++ wm)) (ws' := ocl dA o f :: (wm ++ wx)) (List.perm_append_comm.cons _) hD
        refine icm_eq (tgt := 343) hx hb dLaw_300 (by decide) ?_
        exact W.widen (by omega) (by omega) (hnext st f 0 wx wm H locs ls hw hm hP hD hS (lv_sub hl [0, 1, 2, 3, 4] rfl))
      · refine lv_tableIn (off := 266) (tgt := 305) hx hb dLaw_39 (by omega) (by omega) (by rw [hk9]; rfl) (by decide) ?_
        clear hk9 hsw ih
        refine lv_aload_n hx hb dLaw_305 rfl (lv_at hl 1 rfl) ?_
        refine lv_aload_n hx hb dLaw_306 rfl (lv_at hl 0 rfl) ?_
        refine lv_iload hx hb dLaw_307 (lv_at hl 4 rfl) ?_
        refine lv_iconst (v := iI 1) hx hb dLaw_309 rfl ?_
        refine iv_iadd hx hb dLaw_310 ?_
        refine va_sld hx hb hscr hsc hscA hS (iI_vp (z := 2 * (t : Int) + 1) (n := L) (by omega) (by omega) (by omega)) dLaw_311 ?_
        rw [hx1]
        obtain ⟨fx, hfx⟩ := CW_hd hw
        refine cvE_i (wr := ocl dA o f :: wm) (wc := wx) (va_runV (C := "MacroReckoner") (As := [.int (iI z1)]) (rest := []) ⟨hx, hb, hml, hown, hts⟩ (pMr_charAt l dC dI dA dS b z1 st wx hw hz1 H.size) (cwV 1 hts (gdV wt2_17 wt2_18 wt2_19 wt1_1 wt2_20) rfl rfl rfl ⟨rfl, by decide, by decide, by decide +kernel⟩ ⟨by decide, by decide⟩) (preVE (wr := ocl dA o f :: wm) (q := ("MacroReckoner", TMr, 11)) hK hP hD hS hA (XC_ok dS) hXM.1 hfx rfl) rfl rfl hl.1 rfl (lv_room (Nat.le_of_ble_eq_true rfl)) dLaw_312 ⟨by show _ ≤ 601024; omega, by show _ ≤ 7293034; omega⟩) hP hD hS hA (fun z wx H locs hp hP hD hS => ?_)
        obtain ⟨rfl, hw⟩ := hp
        clear hfx
        refine lv_aload_n hx hb dLaw_315 rfl (lv_at hl 2 rfl) ?_
        refine lv_aload_n hx hb dLaw_316 rfl (lv_at hl 0 rfl) ?_
        refine lv_iload hx hb dLaw_317 (lv_at hl 4 rfl) ?_
        refine lv_iconst (v := iI 1) hx hb dLaw_319 rfl ?_
        refine iv_iadd hx hb dLaw_320 ?_
        refine va_sld hx hb hscr hsc hscA hS (iI_vp (z := 2 * (t : Int) + 1) (n := L) (by omega) (by omega) (by omega)) dLaw_321 ?_
        rw [hx1]
        have hP : va_P (dC, dI) vwCl (ocl dA o f :: wx ++ wm) H := va_P_pm (ws := ocl dA o f :: (wm ++ wx)) (ws' := ocl dA o f :: (wx ++ wm)) (List.perm_append_comm.cons _) hP
        have hD : va_D A (ocl dA o f :: wx ++ wm) := va_D_pm (ws := ocl dA o f :: (wm ++ wx)) (ws' := ocl dA o f :: (wx ++ wm)) (List.perm_append_comm.cons _) hD
        obtain ⟨fm, hfm⟩ := MW_hd hm
        refine cvE_i (wr := ocl dA o f :: wx) (wc := wm) (va_runV (C := "MacroReckonerModel") (As := [.int (iI z1)]) (rest := [.int (iI (cptA st z1))]) ⟨hx, hb, hml, hown, hts⟩ (pMo_charAt l dC dI dA mo z1 ft st wm hm hz1 H.size) (cwV 1 hts (gdV wt5_121 wt5_122 wt5_123 wt1_8 wt5_124) rfl rfl rfl ⟨rfl, by decide, by decide, by decide +kernel⟩ ⟨by decide, by decide⟩) (preVE (wr := ocl dA o f :: wx) (q := ("MacroReckonerModel", TMo, 23)) hK hP hD hS hA XN_ok trivial hfm rfl) rfl rfl hl.1 rfl (lv_room (Nat.le_of_ble_eq_true rfl)) dLaw_322 ⟨by show _ ≤ 601024; omega, by show _ ≤ 7293034; omega⟩) hP hD hS hA (fun z wm H locs hp hP hD hS => ?_)
        obtain ⟨rfl, hm⟩ := hp
        clear hfm
        have hP : va_P (dC, dI) vwCl (ocl dA o f :: wm ++ wx) H := va_P_pm (ws := ocl dA o f :: (wx ++ wm)) (ws' := ocl dA o f :: (wm ++ wx)) (List.perm_append_comm.cons _) hP
        have hD : va_D A (ocl dA o f :: wm ++ wx) := va_D_pm (ws := ocl dA o f :: (wx ++ wm)) (ws' := ocl dA o f :: (wm ++ wx)) (List.perm_append_comm.cons _) hD
        refine icm_eq (tgt := 343) hx hb dLaw_325 (by decide) ?_
        exact W.widen (by omega) (by omega) (hnext st f 0 wx wm H locs ls hw hm hP hD hS (lv_sub hl [0, 1, 2, 3, 4] rfl))
      · refine lv_tableIn (off := 291) (tgt := 330) hx hb dLaw_39 (by omega) (by omega) (by rw [hk9]; rfl) (by decide) ?_
        clear hk9 hsw ih
        refine lv_aload_n hx hb dLaw_330 rfl (lv_at hl 1 rfl) ?_
        obtain ⟨fx, hfx⟩ := CW_hd hw
        refine cvE_i (wr := ocl dA o f :: wm) (wc := wx) (va_runV (C := "MacroReckoner") (As := []) (rest := []) ⟨hx, hb, hml, hown, hts⟩ (pMr_tear l dC dI dA dS b st wx hw  H.size) (cwV 0 hts (gdV wt2_21 wt2_22 wt2_23 wt1_1 wt2_24) rfl rfl rfl ⟨rfl, by decide, by decide, by decide +kernel⟩ ⟨by decide, by decide⟩) (preVE (wr := ocl dA o f :: wm) (q := ("MacroReckoner", TMr, 11)) hK hP hD hS hA (XC_ok dS) hXM.1 hfx rfl) rfl rfl hl.1 rfl (lv_room (Nat.le_of_ble_eq_true rfl)) dLaw_331 ⟨by show _ ≤ 601024; omega, by show _ ≤ 7293034; omega⟩) hP hD hS hA (fun z wx H locs hp hP hD hS => ?_)
        obtain ⟨rfl, hw⟩ := hp
        clear hfx
        refine lv_aload_n hx hb dLaw_334 rfl (lv_at hl 2 rfl) ?_
        have hP : va_P (dC, dI) vwCl (ocl dA o f :: wx ++ wm) H := va_P_pm (ws := ocl dA o f :: (wm ++ wx)) (ws' := ocl dA o f :: (wx ++ wm)) (List.perm_append_comm.cons _) hP
        have hD : va_D A (ocl dA o f :: wx ++ wm) := va_D_pm (ws := ocl dA o f :: (wm ++ wx)) (ws' := ocl dA o f :: (wx ++ wm)) (List.perm_append_comm.cons _) hD
        obtain ⟨fm, hfm⟩ := MW_hd hm
        refine cvE_i (wr := ocl dA o f :: wx) (wc := wm) (va_runV (C := "MacroReckonerModel") (As := []) (rest := [.int (iI st.pl)]) ⟨hx, hb, hml, hown, hts⟩ (pMo_tear l dC dI dA mo ft st wm hm  H.size) (cwV 0 hts (gdV wt5_125 wt5_126 wt5_127 wt1_8 wt5_128) rfl rfl rfl ⟨rfl, by decide, by decide, by decide +kernel⟩ ⟨by decide, by decide⟩) (preVE (wr := ocl dA o f :: wx) (q := ("MacroReckonerModel", TMo, 23)) hK hP hD hS hA XN_ok trivial hfm rfl) rfl rfl hl.1 rfl (lv_room (Nat.le_of_ble_eq_true rfl)) dLaw_335 ⟨by show _ ≤ 601024; omega, by show _ ≤ 7293034; omega⟩) hP hD hS hA (fun z wm H locs hp hP hD hS => ?_)
        obtain ⟨rfl, hm⟩ := hp
        clear hfm
        have hP : va_P (dC, dI) vwCl (ocl dA o f :: wm ++ wx) H := va_P_pm (ws := ocl dA o f :: (wx ++ wm)) (ws' := ocl dA o f :: (wm ++ wx)) (List.perm_append_comm.cons _) hP
        have hD : va_D A (ocl dA o f :: wm ++ wx) := va_D_pm (ws := ocl dA o f :: (wx ++ wm)) (ws' := ocl dA o f :: (wm ++ wx)) (List.perm_append_comm.cons _) hD
        refine icm_eq (tgt := 343) hx hb dLaw_338 (by decide) ?_
        exact W.widen (by omega) (by omega) (hnext (terA st) f 0 wx wm H locs ls hw hm hP hD hS (lv_sub hl [0, 1, 2, 3, 4] rfl))
