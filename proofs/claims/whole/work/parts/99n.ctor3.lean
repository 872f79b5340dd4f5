/-! the class's own constructor: arrays of references that fill up -/
def fpt (f : Nat → Nat) (n : Nat) : Nat → Option Nat := fun j => if j < n then some (f j) else none
theorem fpt_0 {f : Nat → Nat} : fpt f 0 = fun _ => none := funext fun j => if_neg (Nat.not_lt_zero j)
theorem fpt_s {f : Nat → Nat} {k v : Nat} (h : v = f k) : va_up (fpt f k) k (some v) = fpt f (k + 1) := by
  funext j
  unfold va_up fpt
  by_cases q : j = k
  · rw [if_pos q, if_pos (by omega), h, q]
  · rw [if_neg q]
    by_cases z : j < k
    · rw [if_pos z, if_pos (by omega)]
    · rw [if_neg z, if_neg (by omega)]
theorem aV_eq {cA : ClassId} {n : Nat} {f g : Nat → Value} (h : ∀ j, j < n → f j = g j) : arrV cA n f = arrV cA n g :=
  congrArg (fun F : Fin n → Value => ({ cls := cA, slots := Array.ofFn F, vm := .none } : Cell)) (funext fun j => h j.val j.isLt)
theorem fpt_P {D : va_G} {cl : List vw_C} {A : Nat → Prop} {ws : va_W} {H : Heap} {i a n : Nat} {cA : ClassId} {f : Nat → Nat} {g : Int → Nat} (hP : va_P D cl ws H) (hD : va_D A ws) (h : ws[i]? = some (a, .inl (cA, n, .inr (.inr (.inr (.inr (fpt f n))))))) (hg : ∀ j : Nat, j < n → f j = g (j : Int)) : va_P D cl (ws.set i (a, .inl (cA, n, .inr (.inr (.inr (.inr (arR g))))))) H ∧ va_D A (ws.set i (a, .inl (cA, n, .inr (.inr (.inr (.inr (arR g))))))) := by
  refine ⟨hP.set hD h ?_ (fun _ _ => rfl), hD.set h⟩
  have h1 : H[a]? = some (vp_cell cA (n, .inr (.inr (.inr (.inr (fpt f n)))))) := hP i _ h
  show H[a]? = some (vp_cell cA (n, .inr (.inr (.inr (.inr (arR g))))))
  rw [h1, vp_cell_q, vp_cell_q]
  exact congrArg some (aV_eq (fun j hj => by show va_rf (fpt f n j) = va_rf (arR g j); unfold fpt arR; rw [if_pos hj, hg j hj]))
abbrev tz0 : TS := (fun _ => 0, 0, 0)
abbrev vz0 : VS := (0, 0, 0, 0, 0, fun _ => 0, fun _ => 0)
theorem tpl_s {dA : Nat → ClassId} {b k : Nat} {tp : Nat → TS} : tpl dA b tp (List.range k) ++ tcl dA (b + 22 + 2 * k) (tp k) = tpl dA b tp (List.range (k + 1)) := by
  unfold tpl
  rw [List.range_succ, List.flatMap_append, List.flatMap_singleton]
theorem vpl_s {dA : Nat → ClassId} {b k : Nat} {vs : Nat → VS} : vpl dA b vs (List.range k) ++ vcl dA (b + 38 + 4 * k) (vs k) = vpl dA b vs (List.range (k + 1)) := by
  unfold vpl
  rw [List.range_succ, List.flatMap_append, List.flatMap_singleton]
abbrev wCt (dA : Nat → ClassId) (x : Nat) (ft fs fr : Nat → Option Nat) (w_ : va_W) : va_W := (x, .inr (6, [.ref (x + 1), .ref (x + 3), .int (iI 0), .ref (x + 4), .ref (x + 5), .int (iI 0), .ref (x + 6), .int (iI 0), .ref (x + 7), .ref (x + 11), .ref (x + 20)])) :: (x + 1, .inr (2, [.ref (x + 2), .int (iI 0), .int (iI 0)])) :: (x + 2, .inl (dA 1, 100, .inl (arI (fun _ => 0)))) :: (x + 3, .inl (dA 5, 8, .inr (.inr (.inr (.inr ft))))) :: (x + 4, .inr (3, [.int (iI 0), .int (iI 0), .null, .int (iI 0), .int (iI 0), .int (iI 0)])) :: (x + 5, .inl (dA 4, 20, .inr (.inr (.inr (.inr fs))))) :: (x + 6, .inl (dA 4, 26, .inr (.inr (.inr (.inr fr))))) :: (x + 7, .inr (4, [.int (iI 0), .ref (x + 8), .int (iI 0), .int (iI 0), .ref (x + 10), .int (iI 0)])) :: (x + 8, .inr (5, [.ref (x + 9), .int (iI 0)])) :: (x + 9, .inl (dA 0, 32, .inl (arI (fun _ => 0)))) :: (x + 10, .inl (dA 1, 60, .inl (arI (fun _ => 0)))) :: (x + 11, .inr (0, [.ref (x + 7), .ref (x + 12), .ref (x + 14), .ref (x + 16), .ref (x + 18)])) :: (x + 12, .inr (5, [.ref (x + 13), .int (iI 0)])) :: (x + 13, .inl (dA 0, 32, .inl (arI (fun _ => 0)))) :: (x + 14, .inr (5, [.ref (x + 15), .int (iI 0)])) :: (x + 15, .inl (dA 0, 32, .inl (arI (fun _ => 0)))) :: (x + 16, .inr (5, [.ref (x + 17), .int (iI 0)])) :: (x + 17, .inl (dA 0, 32, .inl (arI (fun _ => 0)))) :: (x + 18, .inr (5, [.ref (x + 19), .int (iI 0)])) :: (x + 19, .inl (dA 0, 32, .inl (arI (fun _ => 0)))) :: (x + 20, .inr (1, [.ref (x + 21), .int (iI 0)])) :: (x + 21, .inl (dA 1, 200, .inl (arI (fun _ => 0)))) :: w_
theorem wCt_m {dA : Nat → ClassId} {x : Nat} {ft fs fr : Nat → Option Nat} {w_ : va_W} {q : Nat × va_E} (h : q ∈ w_) : q ∈ wCt dA x ft fs fr w_ := List.mem_cons_of_mem _ (List.mem_cons_of_mem _ (List.mem_cons_of_mem _ (List.mem_cons_of_mem _ (List.mem_cons_of_mem _ (List.mem_cons_of_mem _ (List.mem_cons_of_mem _ (List.mem_cons_of_mem _ (List.mem_cons_of_mem _ (List.mem_cons_of_mem _ (List.mem_cons_of_mem _ (List.mem_cons_of_mem _ (List.mem_cons_of_mem _ (List.mem_cons_of_mem _ (List.mem_cons_of_mem _ (List.mem_cons_of_mem _ (List.mem_cons_of_mem _ (List.mem_cons_of_mem _ (List.mem_cons_of_mem _ (List.mem_cons_of_mem _ (List.mem_cons_of_mem _ (List.mem_cons_of_mem _ (h))))))))))))))))))))))
theorem dMr_init_0 : decode prog_1_method_1_code 0 = .ok (.aload_n 0, 1) := by decide +kernel
theorem dMr_init_1 : decode prog_1_method_1_code 1 = .ok (.invokespecial 1, 3) := by decide +kernel
theorem dMr_init_4 : decode prog_1_method_1_code 4 = .ok (.aload_n 0, 1) := by decide +kernel
theorem dMr_init_5 : decode prog_1_method_1_code 5 = .ok (.new 7, 3) := by decide +kernel
theorem dMr_init_8 : decode prog_1_method_1_code 8 = .ok (.dup, 1) := by decide +kernel
theorem dMr_init_9 : decode prog_1_method_1_code 9 = .ok (.bipush 100, 2) := by decide +kernel
theorem dMr_init_11 : decode prog_1_method_1_code 11 = .ok (.invokespecial 11, 3) := by decide +kernel
theorem dMr_init_14 : decode prog_1_method_1_code 14 = .ok (.putfield 14, 3) := by decide +kernel
theorem dMr_init_17 : decode prog_1_method_1_code 17 = .ok (.aload_n 0, 1) := by decide +kernel
theorem dMr_init_18 : decode prog_1_method_1_code 18 = .ok (.bipush 8, 2) := by decide +kernel
theorem dMr_init_20 : decode prog_1_method_1_code 20 = .ok (.anewarray 7, 3) := by decide +kernel
theorem dMr_init_23 : decode prog_1_method_1_code 23 = .ok (.putfield 18, 3) := by decide +kernel
theorem dMr_init_26 : decode prog_1_method_1_code 26 = .ok (.aload_n 0, 1) := by decide +kernel
theorem dMr_init_27 : decode prog_1_method_1_code 27 = .ok (.iconst 0, 1) := by decide +kernel
theorem dMr_init_28 : decode prog_1_method_1_code 28 = .ok (.putfield 22, 3) := by decide +kernel
theorem dMr_init_31 : decode prog_1_method_1_code 31 = .ok (.aload_n 0, 1) := by decide +kernel
theorem dMr_init_32 : decode prog_1_method_1_code 32 = .ok (.new 26, 3) := by decide +kernel
theorem dMr_init_35 : decode prog_1_method_1_code 35 = .ok (.dup, 1) := by decide +kernel
theorem dMr_init_36 : decode prog_1_method_1_code 36 = .ok (.invokespecial 28, 3) := by decide +kernel
theorem dMr_init_39 : decode prog_1_method_1_code 39 = .ok (.putfield 29, 3) := by decide +kernel
theorem dMr_init_42 : decode prog_1_method_1_code 42 = .ok (.aload_n 0, 1) := by decide +kernel
theorem dMr_init_43 : decode prog_1_method_1_code 43 = .ok (.bipush 20, 2) := by decide +kernel
theorem dMr_init_45 : decode prog_1_method_1_code 45 = .ok (.anewarray 33, 3) := by decide +kernel
theorem dMr_init_48 : decode prog_1_method_1_code 48 = .ok (.putfield 35, 3) := by decide +kernel
theorem dMr_init_51 : decode prog_1_method_1_code 51 = .ok (.aload_n 0, 1) := by decide +kernel
theorem dMr_init_52 : decode prog_1_method_1_code 52 = .ok (.iconst 0, 1) := by decide +kernel
theorem dMr_init_53 : decode prog_1_method_1_code 53 = .ok (.putfield 39, 3) := by decide +kernel
theorem dMr_init_56 : decode prog_1_method_1_code 56 = .ok (.aload_n 0, 1) := by decide +kernel
theorem dMr_init_57 : decode prog_1_method_1_code 57 = .ok (.bipush 26, 2) := by decide +kernel
theorem dMr_init_59 : decode prog_1_method_1_code 59 = .ok (.anewarray 33, 3) := by decide +kernel
theorem dMr_init_62 : decode prog_1_method_1_code 62 = .ok (.putfield 42, 3) := by decide +kernel
theorem dMr_init_65 : decode prog_1_method_1_code 65 = .ok (.aload_n 0, 1) := by decide +kernel
theorem dMr_init_66 : decode prog_1_method_1_code 66 = .ok (.iconst 0, 1) := by decide +kernel
theorem dMr_init_67 : decode prog_1_method_1_code 67 = .ok (.putfield 45, 3) := by decide +kernel
theorem dMr_init_70 : decode prog_1_method_1_code 70 = .ok (.aload_n 0, 1) := by decide +kernel
theorem dMr_init_71 : decode prog_1_method_1_code 71 = .ok (.new 33, 3) := by decide +kernel
theorem dMr_init_74 : decode prog_1_method_1_code 74 = .ok (.dup, 1) := by decide +kernel
theorem dMr_init_75 : decode prog_1_method_1_code 75 = .ok (.invokespecial 48, 3) := by decide +kernel
theorem dMr_init_78 : decode prog_1_method_1_code 78 = .ok (.putfield 49, 3) := by decide +kernel
theorem dMr_init_81 : decode prog_1_method_1_code 81 = .ok (.aload_n 0, 1) := by decide +kernel
theorem dMr_init_82 : decode prog_1_method_1_code 82 = .ok (.new 53, 3) := by decide +kernel
theorem dMr_init_85 : decode prog_1_method_1_code 85 = .ok (.dup, 1) := by decide +kernel
theorem dMr_init_86 : decode prog_1_method_1_code 86 = .ok (.aload_n 0, 1) := by decide +kernel
theorem dMr_init_87 : decode prog_1_method_1_code 87 = .ok (.getfield 49, 3) := by decide +kernel
theorem dMr_init_90 : decode prog_1_method_1_code 90 = .ok (.invokespecial 55, 3) := by decide +kernel
theorem dMr_init_93 : decode prog_1_method_1_code 93 = .ok (.putfield 58, 3) := by decide +kernel
theorem dMr_init_96 : decode prog_1_method_1_code 96 = .ok (.aload_n 0, 1) := by decide +kernel
theorem dMr_init_97 : decode prog_1_method_1_code 97 = .ok (.new 62, 3) := by decide +kernel
theorem dMr_init_100 : decode prog_1_method_1_code 100 = .ok (.dup, 1) := by decide +kernel
theorem dMr_init_101 : decode prog_1_method_1_code 101 = .ok (.invokespecial 64, 3) := by decide +kernel
theorem dMr_init_104 : decode prog_1_method_1_code 104 = .ok (.putfield 65, 3) := by decide +kernel
theorem dMr_init_107 : decode prog_1_method_1_code 107 = .ok (.iconst 0, 1) := by decide +kernel
theorem dMr_init_108 : decode prog_1_method_1_code 108 = .ok (.istore_n 1, 1) := by decide +kernel
theorem dMr_init_109 : decode prog_1_method_1_code 109 = .ok (.iload_n 1, 1) := by decide +kernel
theorem dMr_init_110 : decode prog_1_method_1_code 110 = .ok (.bipush 8, 2) := by decide +kernel
theorem dMr_init_112 : decode prog_1_method_1_code 112 = .ok (.if_icmp .ge 24, 3) := by decide +kernel
theorem dMr_init_115 : decode prog_1_method_1_code 115 = .ok (.aload_n 0, 1) := by decide +kernel
theorem dMr_init_116 : decode prog_1_method_1_code 116 = .ok (.getfield 18, 3) := by decide +kernel
theorem dMr_init_119 : decode prog_1_method_1_code 119 = .ok (.iload_n 1, 1) := by decide +kernel
theorem dMr_init_120 : decode prog_1_method_1_code 120 = .ok (.new 7, 3) := by decide +kernel
theorem dMr_init_123 : decode prog_1_method_1_code 123 = .ok (.dup, 1) := by decide +kernel
theorem dMr_init_124 : decode prog_1_method_1_code 124 = .ok (.bipush 60, 2) := by decide +kernel
theorem dMr_init_126 : decode prog_1_method_1_code 126 = .ok (.invokespecial 11, 3) := by decide +kernel
theorem dMr_init_129 : decode prog_1_method_1_code 129 = .ok (.aastore, 1) := by decide +kernel
theorem dMr_init_130 : decode prog_1_method_1_code 130 = .ok (.iinc 1 1, 3) := by decide +kernel
theorem dMr_init_133 : decode prog_1_method_1_code 133 = .ok (.goto (-24), 3) := by decide +kernel
theorem dMr_init_136 : decode prog_1_method_1_code 136 = .ok (.iconst 0, 1) := by decide +kernel
theorem dMr_init_137 : decode prog_1_method_1_code 137 = .ok (.istore_n 1, 1) := by decide +kernel
theorem dMr_init_138 : decode prog_1_method_1_code 138 = .ok (.iload_n 1, 1) := by decide +kernel
theorem dMr_init_139 : decode prog_1_method_1_code 139 = .ok (.bipush 20, 2) := by decide +kernel
theorem dMr_init_141 : decode prog_1_method_1_code 141 = .ok (.if_icmp .ge 22, 3) := by decide +kernel
theorem dMr_init_144 : decode prog_1_method_1_code 144 = .ok (.aload_n 0, 1) := by decide +kernel
theorem dMr_init_145 : decode prog_1_method_1_code 145 = .ok (.getfield 35, 3) := by decide +kernel
theorem dMr_init_148 : decode prog_1_method_1_code 148 = .ok (.iload_n 1, 1) := by decide +kernel
theorem dMr_init_149 : decode prog_1_method_1_code 149 = .ok (.new 33, 3) := by decide +kernel
theorem dMr_init_152 : decode prog_1_method_1_code 152 = .ok (.dup, 1) := by decide +kernel
theorem dMr_init_153 : decode prog_1_method_1_code 153 = .ok (.invokespecial 48, 3) := by decide +kernel
theorem dMr_init_156 : decode prog_1_method_1_code 156 = .ok (.aastore, 1) := by decide +kernel
theorem dMr_init_157 : decode prog_1_method_1_code 157 = .ok (.iinc 1 1, 3) := by decide +kernel
theorem dMr_init_160 : decode prog_1_method_1_code 160 = .ok (.goto (-22), 3) := by decide +kernel
theorem dMr_init_163 : decode prog_1_method_1_code 163 = .ok (.iconst 0, 1) := by decide +kernel
theorem dMr_init_164 : decode prog_1_method_1_code 164 = .ok (.istore_n 1, 1) := by decide +kernel
theorem dMr_init_165 : decode prog_1_method_1_code 165 = .ok (.iload_n 1, 1) := by decide +kernel
theorem dMr_init_166 : decode prog_1_method_1_code 166 = .ok (.bipush 26, 2) := by decide +kernel
theorem dMr_init_168 : decode prog_1_method_1_code 168 = .ok (.if_icmp .ge 22, 3) := by decide +kernel
theorem dMr_init_171 : decode prog_1_method_1_code 171 = .ok (.aload_n 0, 1) := by decide +kernel
theorem dMr_init_172 : decode prog_1_method_1_code 172 = .ok (.getfield 42, 3) := by decide +kernel
theorem dMr_init_175 : decode prog_1_method_1_code 175 = .ok (.iload_n 1, 1) := by decide +kernel
theorem dMr_init_176 : decode prog_1_method_1_code 176 = .ok (.new 33, 3) := by decide +kernel
theorem dMr_init_179 : decode prog_1_method_1_code 179 = .ok (.dup, 1) := by decide +kernel
theorem dMr_init_180 : decode prog_1_method_1_code 180 = .ok (.invokespecial 48, 3) := by decide +kernel
theorem dMr_init_183 : decode prog_1_method_1_code 183 = .ok (.aastore, 1) := by decide +kernel
theorem dMr_init_184 : decode prog_1_method_1_code 184 = .ok (.iinc 1 1, 3) := by decide +kernel
theorem dMr_init_187 : decode prog_1_method_1_code 187 = .ok (.goto (-22), 3) := by decide +kernel
theorem dMr_init_190 : decode prog_1_method_1_code 190 = .ok (.return_, 1) := by decide +kernel
abbrev rmMr_init : Room := { frames := 3, cells := 221, slots := 5710, locals := 53 }
set_option maxRecDepth 100000 in
set_option maxHeartbeats 4000000 in
theorem mr_str {p : Program} {l : Launch} {e : Env} {s : State} {m : MethodId} {below : List Frame} {meth : Method} {c : Code} {A : Nat → Prop} {dC : Nat → ClassId} {dI : Nat → Nat → Nat} {dA : Nat → ClassId} {x : Nat} (hx : p.tables.exec = Jvm.exec) (hb : c.code = prog_1_method_1_code) (hml : c.maxLocals = 2) (hown : s.vm.findClass "MacroReckoner" = some m.cls) (hts : ∀ w ∈ wg, w.before [.ref x].toArray s = true) (hK : va_K (dC, dI) vwCl (tyA dA) s) (hA : ∀ q, s.heap.size ≤ q → A q) (hX : XY A s s.heap) (hsz : s.heap.size = x + 1) (hnm : meth.name = "<init>") {Q : State → Prop} {H : Heap} {locs : List Loc} {ls : Array Slot} (hP : va_P (dC, dI) vwCl ([(x, .inr (6, [.null, .null, .int (iI 0), .null, .null, .int (iI 0), .null, .int (iI 0), .null, .null, .null]))] : va_W) H) (hD : va_D A ([(x, .inr (6, [.null, .null, .int (iI 0), .null, .null, .int (iI 0), .null, .int (iI 0), .null, .null, .null]))] : va_W)) (hS : va_S A s.heap H locs) (hl : lv_has ls 2 [(0, .ref x)]) (kk : ∀ (H : Heap) (locs : List Loc), va_P (dC, dI) vwCl (wCt dA x (fun _ => none) (fun _ => none) (fun _ => none) []) H → va_D A (wCt dA x (fun _ => none) (fun _ => none) (fun _ => none) []) → va_S A s.heap H locs → W p l e rmMr_init s m [.ref x].toArray below meth c H locs 21 606 Q (F0 m 107 ls [])) : W p l e rmMr_init s m [.ref x].toArray below meth c H locs 0 0 Q (F0 m 0 ls []) := by
  have hty := tyI hK
  obtain ⟨w0, ew0⟩ : ∃ w9 : va_W, w9 = [] := ⟨_, rfl⟩
  have hP : va_P (dC, dI) vwCl ((x, .inr (6, [.null, .null, .int (iI 0), .null, .null, .int (iI 0), .null, .int (iI 0), .null, .null, .null])) :: w0 : va_W) H := by rw [ew0]; exact hP
  have hD : va_D A ((x, .inr (6, [.null, .null, .int (iI 0), .null, .null, .int (iI 0), .null, .int (iI 0), .null, .null, .null])) :: w0 : va_W) := by rw [ew0]; exact hD
  refine lv_aload_n hx hb dMr_init_0 rfl (lv_at hl 0 rfl) ?_
  refine W.objInit hx hb hown (hts _ wt1_25) (hts _ wt1_26) (hts _ wt1_27) rfl (by rw [hml]; exact hl.1) rfl dMr_init_1 (Nat.le_of_ble_eq_true rfl) (Nat.le_of_ble_eq_true rfl) ?_
  refine W.eq (g2 := F0 m 4 ls []) rfl ?_
  refine lv_aload_n hx hb dMr_init_4 rfl (lv_at hl 0 rfl) ?_
  refine W_sz (n := x + 1) (by omega) (by have h9 : x < H.size := (hP 0 _ rfl).lt; omega) (fun hz => ?_)
  refine va_newH (ws := ((x, .inr (6, [.null, .null, .int (iI 0), .null, .null, .int (iI 0), .null, .int (iI 0), .null, .null, .null])) :: w0 : va_W)) (ci := 2) (fs := [.null, .int (iI 0), .int (iI 0)]) (C := "MacroReckoner$Tape") (T := TTa) (N := 3) hx hb hts inTa tyTa tyTa_ok hown (hts _ wt1_28) (hts _ wt1_29) (hts _ wt1_2) hK hP hD hS hA rfl (by decide +kernel) (by show _ ≤ 221; omega) (by show _ ≤ 5710; omega) dMr_init_5 hz (fun H hP hD hS hz => ?_)
  refine lv_dup hx hb dMr_init_8 rfl ?_
  refine lv_bipush (v := iI 100) hx hb dMr_init_9 (by decide) ?_
  refine cvN (wr := ((x, .inr (6, [.null, .null, .int (iI 0), .null, .null, .int (iI 0), .null, .int (iI 0), .null, .null, .null])) :: w0 : va_W)) (wc := [(x + 1, .inr (2, [.null, .int (iI 0), .int (iI 0)]))]) (va_runI (As := [.int (iI 100)]) (rest := [.ref (x + 1), .ref x]) ⟨hx, hb, hml, hown, hts⟩ (cTa_init_100 l dC dI dA (x + 1)  H.size hz) (cwI 1 hts (gd wt1_32) rfl rfl rfl (hts _ wt1_2) (hts _ wt1_30) (hts _ wt1_31) rfl ⟨by decide, by decide, by decide +kernel⟩ ⟨by decide, by decide⟩) (preE (wr := ((x, .inr (6, [.null, .null, .int (iI 0), .null, .null, .int (iI 0), .null, .int (iI 0), .null, .null, .null])) :: w0 : va_W)) hK hP hD hS hA XY_ok hX) rfl rfl hl.1 rfl (lv_room (Nat.le_of_ble_eq_true rfl)) dMr_init_11 ⟨by show _ ≤ 221; omega, by show _ ≤ 5710; omega⟩) hP hD hS hA (fun H locs hP hD hS => ?_)
  obtain ⟨w1, ew1⟩ : ∃ w9 : va_W, w9 = w0 ++ [(x + 1, .inr (2, [.ref (x + 2), .int (iI 0), .int (iI 0)])), (x + 2, .inl (dA 1, 100, .inl (arI (fun _ => 0))))] := ⟨_, rfl⟩
  have hP : va_P (dC, dI) vwCl ((x, .inr (6, [.null, .null, .int (iI 0), .null, .null, .int (iI 0), .null, .int (iI 0), .null, .null, .null])) :: w1 : va_W) H := by rw [ew1]; exact hP
  have hD : va_D A ((x, .inr (6, [.null, .null, .int (iI 0), .null, .null, .int (iI 0), .null, .int (iI 0), .null, .null, .null])) :: w1 : va_W) := by rw [ew1]; exact hD
  have hm1 : ∃ e9 : va_E, (x + 2, e9) ∈ w1 := ⟨_, by rw [ew1]; exact List.mem_append_right _ (List.mem_cons_of_mem _ List.mem_cons_self)⟩
  refine va_putF (D := (dC, dI)) (ci := 6) (v := .ref (x + 1)) (ty := (.object "MacroReckoner$Tape")) (C := "MacroReckoner") (T := TMr) (N := 11) hx hb hts inMr tyMr tyMr_ok nmMr hown hK hP hD hS 0 rfl rfl 0 (by decide) (hts _ wt1_173) (fun _ h9 => h9) rfl hnm rfl (by decide +kernel) rfl rfl (Nat.le_of_ble_eq_true rfl) dMr_init_14 (fun H locs hP hD hS => ?_)
  have hP : va_P (dC, dI) vwCl ((x, .inr (6, [.ref (x + 1), .null, .int (iI 0), .null, .null, .int (iI 0), .null, .int (iI 0), .null, .null, .null])) :: w1 : va_W) H := hP
  have hD : va_D A ((x, .inr (6, [.ref (x + 1), .null, .int (iI 0), .null, .null, .int (iI 0), .null, .int (iI 0), .null, .null, .null])) :: w1 : va_W) := hD
  refine lv_aload_n hx hb dMr_init_17 rfl (lv_at hl 0 rfl) ?_
  refine lv_bipush (v := iI 8) hx hb dMr_init_18 (by decide) ?_
  refine W_sz (n := x + 3) (by omega) (by obtain ⟨e9, hm9⟩ := hm1; have h9 : x + 2 < H.size := (va_P_mem.mp hP _ (List.mem_cons_of_mem _ hm9)).lt; omega) (fun hz => ?_)
  refine va_newqH (ws := ((x, .inr (6, [.ref (x + 1), .null, .int (iI 0), .null, .null, .int (iI 0), .null, .int (iI 0), .null, .null, .null])) :: w1 : va_W)) (n := iI 8) (N' := 8) (C := "MacroReckoner$Tape") hx hb hown (hts _ wt1_28) hX.2.1 hP hD hS hA hty.2.2.2.2.2 (iIn (n := 8) (by decide)).1 (iIn (n := 8) (by decide)).2 (by show 8 * 4 ≤ 536870912; omega) (by show _ ≤ 221; omega) (by show _ ≤ 5710; omega) dMr_init_20 hz (fun H hP hD hS hz => ?_)
  obtain ⟨w2, ew2⟩ : ∃ w9 : va_W, w9 = w1 ++ [(x + 3, .inl (dA 5, 8, .inr (.inr (.inr (.inr (fun _ => none))))))] := ⟨_, rfl⟩
  have hP : va_P (dC, dI) vwCl ((x, .inr (6, [.ref (x + 1), .null, .int (iI 0), .null, .null, .int (iI 0), .null, .int (iI 0), .null, .null, .null])) :: w2 : va_W) H := by rw [ew2]; exact hP
  have hD : va_D A ((x, .inr (6, [.ref (x + 1), .null, .int (iI 0), .null, .null, .int (iI 0), .null, .int (iI 0), .null, .null, .null])) :: w2 : va_W) := by rw [ew2]; exact hD
  have hm2 : ∃ e9 : va_E, (x + 3, e9) ∈ w2 := ⟨_, by rw [ew2]; exact List.mem_append_right _ List.mem_cons_self⟩
  refine va_putF (D := (dC, dI)) (ci := 6) (v := .ref (x + 3)) (ty := (.array (.object "MacroReckoner$Tape"))) (C := "MacroReckoner") (T := TMr) (N := 11) hx hb hts inMr tyMr tyMr_ok nmMr hown hK hP hD hS 0 rfl rfl 1 (by decide) (hts _ wt1_174) (fun _ h9 => h9) rfl hnm rfl (by decide +kernel) rfl rfl (Nat.le_of_ble_eq_true rfl) dMr_init_23 (fun H locs hP hD hS => ?_)
  have hP : va_P (dC, dI) vwCl ((x, .inr (6, [.ref (x + 1), .ref (x + 3), .int (iI 0), .null, .null, .int (iI 0), .null, .int (iI 0), .null, .null, .null])) :: w2 : va_W) H := hP
  have hD : va_D A ((x, .inr (6, [.ref (x + 1), .ref (x + 3), .int (iI 0), .null, .null, .int (iI 0), .null, .int (iI 0), .null, .null, .null])) :: w2 : va_W) := hD
  refine lv_aload_n hx hb dMr_init_26 rfl (lv_at hl 0 rfl) ?_
  refine lv_iconst (v := iI 0) hx hb dMr_init_27 rfl ?_
  refine va_put (D := (dC, dI)) (ci := 6) (v := .int (iI 0)) (ty := .int) (C := "MacroReckoner") (T := TMr) (N := 11) hx hb hts inMr tyMr tyMr_ok nmMr hown hK hP hD hS 0 rfl rfl 2 (by decide) (hts _ wt1_175) (fun _ h9 => h9) rfl (by decide +kernel) rfl rfl (Nat.le_of_ble_eq_true rfl) dMr_init_28 (fun H locs hP hD hS => ?_)
  have hP : va_P (dC, dI) vwCl ((x, .inr (6, [.ref (x + 1), .ref (x + 3), .int (iI 0), .null, .null, .int (iI 0), .null, .int (iI 0), .null, .null, .null])) :: w2 : va_W) H := hP
  have hD : va_D A ((x, .inr (6, [.ref (x + 1), .ref (x + 3), .int (iI 0), .null, .null, .int (iI 0), .null, .int (iI 0), .null, .null, .null])) :: w2 : va_W) := hD
  refine lv_aload_n hx hb dMr_init_31 rfl (lv_at hl 0 rfl) ?_
  refine W_sz (n := x + 4) (by omega) (by obtain ⟨e9, hm9⟩ := hm2; have h9 : x + 3 < H.size := (va_P_mem.mp hP _ (List.mem_cons_of_mem _ hm9)).lt; omega) (fun hz => ?_)
  refine va_newH (ws := ((x, .inr (6, [.ref (x + 1), .ref (x + 3), .int (iI 0), .null, .null, .int (iI 0), .null, .int (iI 0), .null, .null, .null])) :: w2 : va_W)) (ci := 3) (fs := [.int (iI 0), .int (iI 0), .null, .int (iI 0), .int (iI 0), .int (iI 0)]) (C := "MacroReckoner$Token") (T := TTo) (N := 6) hx hb hts inTo tyTo tyTo_ok hown (hts _ wt1_49) (hts _ wt1_50) (hts _ wt1_3) hK hP hD hS hA rfl (by decide +kernel) (by show _ ≤ 221; omega) (by show _ ≤ 5710; omega) dMr_init_32 hz (fun H hP hD hS hz => ?_)
  refine lv_dup hx hb dMr_init_35 rfl ?_
  refine cvN (wr := ((x, .inr (6, [.ref (x + 1), .ref (x + 3), .int (iI 0), .null, .null, .int (iI 0), .null, .int (iI 0), .null, .null, .null])) :: w2 : va_W)) (wc := [(x + 4, .inr (3, [.int (iI 0), .int (iI 0), .null, .int (iI 0), .int (iI 0), .int (iI 0)]))]) (va_runIN (As := []) (rest := [.ref (x + 4), .ref x]) ⟨hx, hb, hml, hown, hts⟩ (cTo_init l dC dI dA (x + 4)  H.size hz) ⟨va_cnB (host := "MacroReckoner") 0 hts (gd wt1_53) rfl rfl rfl (nM_0 hX.1) (hts _ wt1_3) ⟨by decide, by decide, by decide +kernel⟩ ⟨by decide, by decide⟩, rfl, hts _ wt1_52⟩ (preE (wr := ((x, .inr (6, [.ref (x + 1), .ref (x + 3), .int (iI 0), .null, .null, .int (iI 0), .null, .int (iI 0), .null, .null, .null])) :: w2 : va_W)) hK hP hD hS hA XY_ok hX) rfl rfl hl.1 rfl (lv_room (Nat.le_of_ble_eq_true rfl)) dMr_init_36 ⟨by show _ ≤ 221; omega, by show _ ≤ 5710; omega⟩) hP hD hS hA (fun H locs hP hD hS => ?_)
  obtain ⟨w3, ew3⟩ : ∃ w9 : va_W, w9 = w2 ++ [(x + 4, .inr (3, [.int (iI 0), .int (iI 0), .null, .int (iI 0), .int (iI 0), .int (iI 0)]))] := ⟨_, rfl⟩
  have hP : va_P (dC, dI) vwCl ((x, .inr (6, [.ref (x + 1), .ref (x + 3), .int (iI 0), .null, .null, .int (iI 0), .null, .int (iI 0), .null, .null, .null])) :: w3 : va_W) H := by rw [ew3]; exact hP
  have hD : va_D A ((x, .inr (6, [.ref (x + 1), .ref (x + 3), .int (iI 0), .null, .null, .int (iI 0), .null, .int (iI 0), .null, .null, .null])) :: w3 : va_W) := by rw [ew3]; exact hD
  have hm3 : ∃ e9 : va_E, (x + 4, e9) ∈ w3 := ⟨_, by rw [ew3]; exact List.mem_append_right _ List.mem_cons_self⟩
  refine va_putF (D := (dC, dI)) (ci := 6) (v := .ref (x + 4)) (ty := (.object "MacroReckoner$Token")) (C := "MacroReckoner") (T := TMr) (N := 11) hx hb hts inMr tyMr tyMr_ok nmMr hown hK hP hD hS 0 rfl rfl 3 (by decide) (hts _ wt1_176) (fun _ h9 => h9) rfl hnm rfl (by decide +kernel) rfl rfl (Nat.le_of_ble_eq_true rfl) dMr_init_39 (fun H locs hP hD hS => ?_)
  have hP : va_P (dC, dI) vwCl ((x, .inr (6, [.ref (x + 1), .ref (x + 3), .int (iI 0), .ref (x + 4), .null, .int (iI 0), .null, .int (iI 0), .null, .null, .null])) :: w3 : va_W) H := hP
  have hD : va_D A ((x, .inr (6, [.ref (x + 1), .ref (x + 3), .int (iI 0), .ref (x + 4), .null, .int (iI 0), .null, .int (iI 0), .null, .null, .null])) :: w3 : va_W) := hD
  refine lv_aload_n hx hb dMr_init_42 rfl (lv_at hl 0 rfl) ?_
  refine lv_bipush (v := iI 20) hx hb dMr_init_43 (by decide) ?_
  refine W_sz (n := x + 5) (by omega) (by obtain ⟨e9, hm9⟩ := hm3; have h9 : x + 4 < H.size := (va_P_mem.mp hP _ (List.mem_cons_of_mem _ hm9)).lt; omega) (fun hz => ?_)
  refine va_newqH (ws := ((x, .inr (6, [.ref (x + 1), .ref (x + 3), .int (iI 0), .ref (x + 4), .null, .int (iI 0), .null, .int (iI 0), .null, .null, .null])) :: w3 : va_W)) (n := iI 20) (N' := 20) (C := "MacroReckoner$Value") hx hb hown (hts _ wt1_79) hX.2.2 hP hD hS hA hty.2.2.2.2.1 (iIn (n := 20) (by decide)).1 (iIn (n := 20) (by decide)).2 (by show 20 * 4 ≤ 536870912; omega) (by show _ ≤ 221; omega) (by show _ ≤ 5710; omega) dMr_init_45 hz (fun H hP hD hS hz => ?_)
  obtain ⟨w4, ew4⟩ : ∃ w9 : va_W, w9 = w3 ++ [(x + 5, .inl (dA 4, 20, .inr (.inr (.inr (.inr (fun _ => none))))))] := ⟨_, rfl⟩
  have hP : va_P (dC, dI) vwCl ((x, .inr (6, [.ref (x + 1), .ref (x + 3), .int (iI 0), .ref (x + 4), .null, .int (iI 0), .null, .int (iI 0), .null, .null, .null])) :: w4 : va_W) H := by rw [ew4]; exact hP
  have hD : va_D A ((x, .inr (6, [.ref (x + 1), .ref (x + 3), .int (iI 0), .ref (x + 4), .null, .int (iI 0), .null, .int (iI 0), .null, .null, .null])) :: w4 : va_W) := by rw [ew4]; exact hD
  have hm4 : ∃ e9 : va_E, (x + 5, e9) ∈ w4 := ⟨_, by rw [ew4]; exact List.mem_append_right _ List.mem_cons_self⟩
  refine va_putF (D := (dC, dI)) (ci := 6) (v := .ref (x + 5)) (ty := (.array (.object "MacroReckoner$Value"))) (C := "MacroReckoner") (T := TMr) (N := 11) hx hb hts inMr tyMr tyMr_ok nmMr hown hK hP hD hS 0 rfl rfl 4 (by decide) (hts _ wt1_177) (fun _ h9 => h9) rfl hnm rfl (by decide +kernel) rfl rfl (Nat.le_of_ble_eq_true rfl) dMr_init_48 (fun H locs hP hD hS => ?_)
  have hP : va_P (dC, dI) vwCl ((x, .inr (6, [.ref (x + 1), .ref (x + 3), .int (iI 0), .ref (x + 4), .ref (x + 5), .int (iI 0), .null, .int (iI 0), .null, .null, .null])) :: w4 : va_W) H := hP
  have hD : va_D A ((x, .inr (6, [.ref (x + 1), .ref (x + 3), .int (iI 0), .ref (x + 4), .ref (x + 5), .int (iI 0), .null, .int (iI 0), .null, .null, .null])) :: w4 : va_W) := hD
  refine lv_aload_n hx hb dMr_init_51 rfl (lv_at hl 0 rfl) ?_
  refine lv_iconst (v := iI 0) hx hb dMr_init_52 rfl ?_
  refine va_put (D := (dC, dI)) (ci := 6) (v := .int (iI 0)) (ty := .int) (C := "MacroReckoner") (T := TMr) (N := 11) hx hb hts inMr tyMr tyMr_ok nmMr hown hK hP hD hS 0 rfl rfl 5 (by decide) (hts _ wt1_178) (fun _ h9 => h9) rfl (by decide +kernel) rfl rfl (Nat.le_of_ble_eq_true rfl) dMr_init_53 (fun H locs hP hD hS => ?_)
  have hP : va_P (dC, dI) vwCl ((x, .inr (6, [.ref (x + 1), .ref (x + 3), .int (iI 0), .ref (x + 4), .ref (x + 5), .int (iI 0), .null, .int (iI 0), .null, .null, .null])) :: w4 : va_W) H := hP
  have hD : va_D A ((x, .inr (6, [.ref (x + 1), .ref (x + 3), .int (iI 0), .ref (x + 4), .ref (x + 5), .int (iI 0), .null, .int (iI 0), .null, .null, .null])) :: w4 : va_W) := hD
  refine lv_aload_n hx hb dMr_init_56 rfl (lv_at hl 0 rfl) ?_
  refine lv_bipush (v := iI 26) hx hb dMr_init_57 (by decide) ?_
  refine W_sz (n := x + 6) (by omega) (by obtain ⟨e9, hm9⟩ := hm4; have h9 : x + 5 < H.size := (va_P_mem.mp hP _ (List.mem_cons_of_mem _ hm9)).lt; omega) (fun hz => ?_)
  refine va_newqH (ws := ((x, .inr (6, [.ref (x + 1), .ref (x + 3), .int (iI 0), .ref (x + 4), .ref (x + 5), .int (iI 0), .null, .int (iI 0), .null, .null, .null])) :: w4 : va_W)) (n := iI 26) (N' := 26) (C := "MacroReckoner$Value") hx hb hown (hts _ wt1_79) hX.2.2 hP hD hS hA hty.2.2.2.2.1 (iIn (n := 26) (by decide)).1 (iIn (n := 26) (by decide)).2 (by show 26 * 4 ≤ 536870912; omega) (by show _ ≤ 221; omega) (by show _ ≤ 5710; omega) dMr_init_59 hz (fun H hP hD hS hz => ?_)
  obtain ⟨w5, ew5⟩ : ∃ w9 : va_W, w9 = w4 ++ [(x + 6, .inl (dA 4, 26, .inr (.inr (.inr (.inr (fun _ => none))))))] := ⟨_, rfl⟩
  have hP : va_P (dC, dI) vwCl ((x, .inr (6, [.ref (x + 1), .ref (x + 3), .int (iI 0), .ref (x + 4), .ref (x + 5), .int (iI 0), .null, .int (iI 0), .null, .null, .null])) :: w5 : va_W) H := by rw [ew5]; exact hP
  have hD : va_D A ((x, .inr (6, [.ref (x + 1), .ref (x + 3), .int (iI 0), .ref (x + 4), .ref (x + 5), .int (iI 0), .null, .int (iI 0), .null, .null, .null])) :: w5 : va_W) := by rw [ew5]; exact hD
  have hm5 : ∃ e9 : va_E, (x + 6, e9) ∈ w5 := ⟨_, by rw [ew5]; exact List.mem_append_right _ List.mem_cons_self⟩
  refine va_putF (D := (dC, dI)) (ci := 6) (v := .ref (x + 6)) (ty := (.array (.object "MacroReckoner$Value"))) (C := "MacroReckoner") (T := TMr) (N := 11) hx hb hts inMr tyMr tyMr_ok nmMr hown hK hP hD hS 0 rfl rfl 6 (by decide) (hts _ wt1_179) (fun _ h9 => h9) rfl hnm rfl (by decide +kernel) rfl rfl (Nat.le_of_ble_eq_true rfl) dMr_init_62 (fun H locs hP hD hS => ?_)
  have hP : va_P (dC, dI) vwCl ((x, .inr (6, [.ref (x + 1), .ref (x + 3), .int (iI 0), .ref (x + 4), .ref (x + 5), .int (iI 0), .ref (x + 6), .int (iI 0), .null, .null, .null])) :: w5 : va_W) H := hP
  have hD : va_D A ((x, .inr (6, [.ref (x + 1), .ref (x + 3), .int (iI 0), .ref (x + 4), .ref (x + 5), .int (iI 0), .ref (x + 6), .int (iI 0), .null, .null, .null])) :: w5 : va_W) := hD
  refine lv_aload_n hx hb dMr_init_65 rfl (lv_at hl 0 rfl) ?_
  refine lv_iconst (v := iI 0) hx hb dMr_init_66 rfl ?_
  refine va_put (D := (dC, dI)) (ci := 6) (v := .int (iI 0)) (ty := .int) (C := "MacroReckoner") (T := TMr) (N := 11) hx hb hts inMr tyMr tyMr_ok nmMr hown hK hP hD hS 0 rfl rfl 7 (by decide) (hts _ wt1_180) (fun _ h9 => h9) rfl (by decide +kernel) rfl rfl (Nat.le_of_ble_eq_true rfl) dMr_init_67 (fun H locs hP hD hS => ?_)
  have hP : va_P (dC, dI) vwCl ((x, .inr (6, [.ref (x + 1), .ref (x + 3), .int (iI 0), .ref (x + 4), .ref (x + 5), .int (iI 0), .ref (x + 6), .int (iI 0), .null, .null, .null])) :: w5 : va_W) H := hP
  have hD : va_D A ((x, .inr (6, [.ref (x + 1), .ref (x + 3), .int (iI 0), .ref (x + 4), .ref (x + 5), .int (iI 0), .ref (x + 6), .int (iI 0), .null, .null, .null])) :: w5 : va_W) := hD
  refine lv_aload_n hx hb dMr_init_70 rfl (lv_at hl 0 rfl) ?_
  refine W_sz (n := x + 7) (by omega) (by obtain ⟨e9, hm9⟩ := hm5; have h9 : x + 6 < H.size := (va_P_mem.mp hP _ (List.mem_cons_of_mem _ hm9)).lt; omega) (fun hz => ?_)
  refine va_newH (ws := ((x, .inr (6, [.ref (x + 1), .ref (x + 3), .int (iI 0), .ref (x + 4), .ref (x + 5), .int (iI 0), .ref (x + 6), .int (iI 0), .null, .null, .null])) :: w5 : va_W)) (ci := 4) (fs := [.int (iI 0), .null, .int (iI 0), .int (iI 0), .null, .int (iI 0)]) (C := "MacroReckoner$Value") (T := TVa) (N := 6) hx hb hts inVa tyVa tyVa_ok hown (hts _ wt1_79) (hts _ wt1_81) (hts _ wt1_4) hK hP hD hS hA rfl (by decide +kernel) (by show _ ≤ 221; omega) (by show _ ≤ 5710; omega) dMr_init_71 hz (fun H hP hD hS hz => ?_)
  refine lv_dup hx hb dMr_init_74 rfl ?_
  refine cvN (wr := ((x, .inr (6, [.ref (x + 1), .ref (x + 3), .int (iI 0), .ref (x + 4), .ref (x + 5), .int (iI 0), .ref (x + 6), .int (iI 0), .null, .null, .null])) :: w5 : va_W)) (wc := [(x + 7, .inr (4, [.int (iI 0), .null, .int (iI 0), .int (iI 0), .null, .int (iI 0)]))]) (va_runIN (As := []) (rest := [.ref (x + 7), .ref x]) ⟨hx, hb, hml, hown, hts⟩ (cVa_init l dC dI dA (x + 7)  H.size hz) ⟨va_cnB (host := "MacroReckoner") 0 hts (gd wt1_84) rfl rfl rfl (nM_1 hX.1) (hts _ wt1_4) ⟨by decide, by decide, by decide +kernel⟩ ⟨by decide, by decide⟩, rfl, hts _ wt1_83⟩ (preE (wr := ((x, .inr (6, [.ref (x + 1), .ref (x + 3), .int (iI 0), .ref (x + 4), .ref (x + 5), .int (iI 0), .ref (x + 6), .int (iI 0), .null, .null, .null])) :: w5 : va_W)) hK hP hD hS hA XY_ok hX) rfl rfl hl.1 rfl (lv_room (Nat.le_of_ble_eq_true rfl)) dMr_init_75 ⟨by show _ ≤ 221; omega, by show _ ≤ 5710; omega⟩) hP hD hS hA (fun H locs hP hD hS => ?_)
  obtain ⟨w6, ew6⟩ : ∃ w9 : va_W, w9 = w5 ++ [(x + 7, .inr (4, [.int (iI 0), .ref (x + 8), .int (iI 0), .int (iI 0), .ref (x + 10), .int (iI 0)])), (x + 8, .inr (5, [.ref (x + 9), .int (iI 0)])), (x + 9, .inl (dA 0, 32, .inl (arI (fun _ => 0)))), (x + 10, .inl (dA 1, 60, .inl (arI (fun _ => 0))))] := ⟨_, rfl⟩
  have hP : va_P (dC, dI) vwCl ((x, .inr (6, [.ref (x + 1), .ref (x + 3), .int (iI 0), .ref (x + 4), .ref (x + 5), .int (iI 0), .ref (x + 6), .int (iI 0), .null, .null, .null])) :: w6 : va_W) H := by rw [ew6]; exact hP
  have hD : va_D A ((x, .inr (6, [.ref (x + 1), .ref (x + 3), .int (iI 0), .ref (x + 4), .ref (x + 5), .int (iI 0), .ref (x + 6), .int (iI 0), .null, .null, .null])) :: w6 : va_W) := by rw [ew6]; exact hD
  have hm6 : ∃ e9 : va_E, (x + 10, e9) ∈ w6 := ⟨_, by rw [ew6]; exact List.mem_append_right _ (List.mem_cons_of_mem _ (List.mem_cons_of_mem _ (List.mem_cons_of_mem _ List.mem_cons_self)))⟩
  refine va_putF (D := (dC, dI)) (ci := 6) (v := .ref (x + 7)) (ty := (.object "MacroReckoner$Value")) (C := "MacroReckoner") (T := TMr) (N := 11) hx hb hts inMr tyMr tyMr_ok nmMr hown hK hP hD hS 0 rfl rfl 8 (by decide) (hts _ wt1_181) (fun _ h9 => h9) rfl hnm rfl (by decide +kernel) rfl rfl (Nat.le_of_ble_eq_true rfl) dMr_init_78 (fun H locs hP hD hS => ?_)
  have hP : va_P (dC, dI) vwCl ((x, .inr (6, [.ref (x + 1), .ref (x + 3), .int (iI 0), .ref (x + 4), .ref (x + 5), .int (iI 0), .ref (x + 6), .int (iI 0), .ref (x + 7), .null, .null])) :: w6 : va_W) H := hP
  have hD : va_D A ((x, .inr (6, [.ref (x + 1), .ref (x + 3), .int (iI 0), .ref (x + 4), .ref (x + 5), .int (iI 0), .ref (x + 6), .int (iI 0), .ref (x + 7), .null, .null])) :: w6 : va_W) := hD
  refine lv_aload_n hx hb dMr_init_81 rfl (lv_at hl 0 rfl) ?_
  refine W_sz (n := x + 11) (by omega) (by obtain ⟨e9, hm9⟩ := hm6; have h9 : x + 10 < H.size := (va_P_mem.mp hP _ (List.mem_cons_of_mem _ hm9)).lt; omega) (fun hz => ?_)
  refine va_newH (ws := ((x, .inr (6, [.ref (x + 1), .ref (x + 3), .int (iI 0), .ref (x + 4), .ref (x + 5), .int (iI 0), .ref (x + 6), .int (iI 0), .ref (x + 7), .null, .null])) :: w6 : va_W)) (ci := 0) (fs := [.null, .null, .null, .null, .null]) (C := "MacroReckoner$Arithmetic") (T := TAr) (N := 5) hx hb hts inAr tyAr tyAr_ok hown (hts _ wt1_134) (hts _ wt1_135) (hts _ wt1_6) hK hP hD hS hA rfl (by decide +kernel) (by show _ ≤ 221; omega) (by show _ ≤ 5710; omega) dMr_init_82 hz (fun H hP hD hS hz => ?_)
  refine lv_dup hx hb dMr_init_85 rfl ?_
  refine lv_aload_n hx hb dMr_init_86 rfl (lv_at hl 0 rfl) ?_
  refine va_get (D := (dC, dI)) (ci := 6) (v := .ref (x + 7)) (C := "MacroReckoner") (T := TMr) (N := 11) hx hb hts inMr hown hK hP 0 rfl rfl 8 (by decide) (hts _ wt1_181) (fun _ h9 => h9) rfl dMr_init_87 ?_
  refine cvN (wr := ((x, .inr (6, [.ref (x + 1), .ref (x + 3), .int (iI 0), .ref (x + 4), .ref (x + 5), .int (iI 0), .ref (x + 6), .int (iI 0), .ref (x + 7), .null, .null])) :: w6 : va_W)) (wc := [(x + 11, .inr (0, [.null, .null, .null, .null, .null]))]) (va_runI (As := [.ref (x + 7)]) (rest := [.ref (x + 11), .ref x]) ⟨hx, hb, hml, hown, hts⟩ (cAr_init l dC dI dA (x + 11) (x + 7) H.size hz) (cwI 1 hts (gd wt1_138) rfl rfl rfl (hts _ wt1_6) (hts _ wt1_136) (hts _ wt1_137) rfl ⟨by decide, by decide, by decide +kernel⟩ ⟨by decide, by decide⟩) (preE (wr := ((x, .inr (6, [.ref (x + 1), .ref (x + 3), .int (iI 0), .ref (x + 4), .ref (x + 5), .int (iI 0), .ref (x + 6), .int (iI 0), .ref (x + 7), .null, .null])) :: w6 : va_W)) hK hP hD hS hA XY_ok hX) rfl rfl hl.1 rfl (lv_room (Nat.le_of_ble_eq_true rfl)) dMr_init_90 ⟨by show _ ≤ 221; omega, by show _ ≤ 5710; omega⟩) hP hD hS hA (fun H locs hP hD hS => ?_)
  obtain ⟨w7, ew7⟩ : ∃ w9 : va_W, w9 = w6 ++ [(x + 11, .inr (0, [.ref (x + 7), .ref (x + 12), .ref (x + 14), .ref (x + 16), .ref (x + 18)])), (x + 12, .inr (5, [.ref (x + 13), .int (iI 0)])), (x + 13, .inl (dA 0, 32, .inl (arI (fun _ => 0)))), (x + 14, .inr (5, [.ref (x + 15), .int (iI 0)])), (x + 15, .inl (dA 0, 32, .inl (arI (fun _ => 0)))), (x + 16, .inr (5, [.ref (x + 17), .int (iI 0)])), (x + 17, .inl (dA 0, 32, .inl (arI (fun _ => 0)))), (x + 18, .inr (5, [.ref (x + 19), .int (iI 0)])), (x + 19, .inl (dA 0, 32, .inl (arI (fun _ => 0))))] := ⟨_, rfl⟩
  have hP : va_P (dC, dI) vwCl ((x, .inr (6, [.ref (x + 1), .ref (x + 3), .int (iI 0), .ref (x + 4), .ref (x + 5), .int (iI 0), .ref (x + 6), .int (iI 0), .ref (x + 7), .null, .null])) :: w7 : va_W) H := by rw [ew7]; exact hP
  have hD : va_D A ((x, .inr (6, [.ref (x + 1), .ref (x + 3), .int (iI 0), .ref (x + 4), .ref (x + 5), .int (iI 0), .ref (x + 6), .int (iI 0), .ref (x + 7), .null, .null])) :: w7 : va_W) := by rw [ew7]; exact hD
  have hm7 : ∃ e9 : va_E, (x + 19, e9) ∈ w7 := ⟨_, by rw [ew7]; exact List.mem_append_right _ (List.mem_cons_of_mem _ (List.mem_cons_of_mem _ (List.mem_cons_of_mem _ (List.mem_cons_of_mem _ (List.mem_cons_of_mem _ (List.mem_cons_of_mem _ (List.mem_cons_of_mem _ (List.mem_cons_of_mem _ List.mem_cons_self))))))))⟩
  refine va_putF (D := (dC, dI)) (ci := 6) (v := .ref (x + 11)) (ty := (.object "MacroReckoner$Arithmetic")) (C := "MacroReckoner") (T := TMr) (N := 11) hx hb hts inMr tyMr tyMr_ok nmMr hown hK hP hD hS 0 rfl rfl 9 (by decide) (hts _ wt1_182) (fun _ h9 => h9) rfl hnm rfl (by decide +kernel) rfl rfl (Nat.le_of_ble_eq_true rfl) dMr_init_93 (fun H locs hP hD hS => ?_)
  have hP : va_P (dC, dI) vwCl ((x, .inr (6, [.ref (x + 1), .ref (x + 3), .int (iI 0), .ref (x + 4), .ref (x + 5), .int (iI 0), .ref (x + 6), .int (iI 0), .ref (x + 7), .ref (x + 11), .null])) :: w7 : va_W) H := hP
  have hD : va_D A ((x, .inr (6, [.ref (x + 1), .ref (x + 3), .int (iI 0), .ref (x + 4), .ref (x + 5), .int (iI 0), .ref (x + 6), .int (iI 0), .ref (x + 7), .ref (x + 11), .null])) :: w7 : va_W) := hD
  refine lv_aload_n hx hb dMr_init_96 rfl (lv_at hl 0 rfl) ?_
  refine W_sz (n := x + 20) (by omega) (by obtain ⟨e9, hm9⟩ := hm7; have h9 : x + 19 < H.size := (va_P_mem.mp hP _ (List.mem_cons_of_mem _ hm9)).lt; omega) (fun hz => ?_)
  refine va_newH (ws := ((x, .inr (6, [.ref (x + 1), .ref (x + 3), .int (iI 0), .ref (x + 4), .ref (x + 5), .int (iI 0), .ref (x + 6), .int (iI 0), .ref (x + 7), .ref (x + 11), .null])) :: w7 : va_W)) (ci := 1) (fs := [.null, .int (iI 0)]) (C := "MacroReckoner$Paper") (T := TPa) (N := 2) hx hb hts inPa tyPa tyPa_ok hown (hts _ wt1_158) (hts _ wt1_159) (hts _ wt1_7) hK hP hD hS hA rfl (by decide +kernel) (by show _ ≤ 221; omega) (by show _ ≤ 5710; omega) dMr_init_97 hz (fun H hP hD hS hz => ?_)
  refine lv_dup hx hb dMr_init_100 rfl ?_
  refine cvN (wr := ((x, .inr (6, [.ref (x + 1), .ref (x + 3), .int (iI 0), .ref (x + 4), .ref (x + 5), .int (iI 0), .ref (x + 6), .int (iI 0), .ref (x + 7), .ref (x + 11), .null])) :: w7 : va_W)) (wc := [(x + 20, .inr (1, [.null, .int (iI 0)]))]) (va_runIN (As := []) (rest := [.ref (x + 20), .ref x]) ⟨hx, hb, hml, hown, hts⟩ (cPa_init l dC dI dA (x + 20)  H.size hz) ⟨va_cnB (host := "MacroReckoner") 0 hts (gd wt1_162) rfl rfl rfl (nM_4 hX.1) (hts _ wt1_7) ⟨by decide, by decide, by decide +kernel⟩ ⟨by decide, by decide⟩, rfl, hts _ wt1_161⟩ (preE (wr := ((x, .inr (6, [.ref (x + 1), .ref (x + 3), .int (iI 0), .ref (x + 4), .ref (x + 5), .int (iI 0), .ref (x + 6), .int (iI 0), .ref (x + 7), .ref (x + 11), .null])) :: w7 : va_W)) hK hP hD hS hA XY_ok hX) rfl rfl hl.1 rfl (lv_room (Nat.le_of_ble_eq_true rfl)) dMr_init_101 ⟨by show _ ≤ 221; omega, by show _ ≤ 5710; omega⟩) hP hD hS hA (fun H locs hP hD hS => ?_)
  obtain ⟨w8, ew8⟩ : ∃ w9 : va_W, w9 = w7 ++ [(x + 20, .inr (1, [.ref (x + 21), .int (iI 0)])), (x + 21, .inl (dA 1, 200, .inl (arI (fun _ => 0))))] := ⟨_, rfl⟩
  have hP : va_P (dC, dI) vwCl ((x, .inr (6, [.ref (x + 1), .ref (x + 3), .int (iI 0), .ref (x + 4), .ref (x + 5), .int (iI 0), .ref (x + 6), .int (iI 0), .ref (x + 7), .ref (x + 11), .null])) :: w8 : va_W) H := by rw [ew8]; exact hP
  have hD : va_D A ((x, .inr (6, [.ref (x + 1), .ref (x + 3), .int (iI 0), .ref (x + 4), .ref (x + 5), .int (iI 0), .ref (x + 6), .int (iI 0), .ref (x + 7), .ref (x + 11), .null])) :: w8 : va_W) := by rw [ew8]; exact hD
  have hm8 : ∃ e9 : va_E, (x + 21, e9) ∈ w8 := ⟨_, by rw [ew8]; exact List.mem_append_right _ (List.mem_cons_of_mem _ List.mem_cons_self)⟩
  refine va_putF (D := (dC, dI)) (ci := 6) (v := .ref (x + 20)) (ty := (.object "MacroReckoner$Paper")) (C := "MacroReckoner") (T := TMr) (N := 11) hx hb hts inMr tyMr tyMr_ok nmMr hown hK hP hD hS 0 rfl rfl 10 (by decide) (hts _ wt1_183) (fun _ h9 => h9) rfl hnm rfl (by decide +kernel) rfl rfl (Nat.le_of_ble_eq_true rfl) dMr_init_104 (fun H locs hP hD hS => ?_)
  have hP : va_P (dC, dI) vwCl ((x, .inr (6, [.ref (x + 1), .ref (x + 3), .int (iI 0), .ref (x + 4), .ref (x + 5), .int (iI 0), .ref (x + 6), .int (iI 0), .ref (x + 7), .ref (x + 11), .ref (x + 20)])) :: w8 : va_W) H := hP
  have hD : va_D A ((x, .inr (6, [.ref (x + 1), .ref (x + 3), .int (iI 0), .ref (x + 4), .ref (x + 5), .int (iI 0), .ref (x + 6), .int (iI 0), .ref (x + 7), .ref (x + 11), .ref (x + 20)])) :: w8 : va_W) := hD
  rw [ew8, ew7, ew6, ew5, ew4, ew3, ew2, ew1, ew0] at hP hD
  exact W_cs (by omega) (by omega) (kk H locs hP hD hS)
set_option maxRecDepth 100000 in
set_option maxHeartbeats 4000000 in
theorem mr_loops {p : Program} {l : Launch} {e : Env} {s : State} {m : MethodId} {below : List Frame} {meth : Method} {c : Code} {A : Nat → Prop} {dC : Nat → ClassId} {dI : Nat → Nat → Nat} {dA : Nat → ClassId} {x : Nat} (hx : p.tables.exec = Jvm.exec) (hb : c.code = prog_1_method_1_code) (hml : c.maxLocals = 2) (hown : s.vm.findClass "MacroReckoner" = some m.cls) (hts : ∀ w ∈ wg, w.before [.ref x].toArray s = true) (hK : va_K (dC, dI) vwCl (tyA dA) s) (hA : ∀ q, s.heap.size ≤ q → A q) (hX : XY A s s.heap) (hsz : s.heap.size = x + 1) (hr : meth.sig.returnType = none) (hlocks : meth.locks = false) : ∀ (H : Heap) (locs : List Loc) (ls : Array Slot), va_P (dC, dI) vwCl (wCt dA x (fun _ => none) (fun _ => none) (fun _ => none) []) H → va_D A (wCt dA x (fun _ => none) (fun _ => none) (fun _ => none) []) → va_S A s.heap H locs → lv_has ls 2 [(0, .ref x)] → W p l e rmMr_init s m [.ref x].toArray below meth c H locs 21 606 (MQ below (QN (dC, dI) vwCl (tyA dA) (wMr dA x 0 0 0 0 0 0 0 0 0 0 0 0 0 0 0 0 0 0 0 0 .null (fun i => i.toNat) (fun _ => 0) (fun _ => 0) (fun _ => 0) (fun _ => 0) (fun _ => 0) (fun _ => 0) (fun _ => 0) (fun _ => 0) (tl0 dA x (fun _ => vz0) (fun _ => tz0)) : va_W) A) [.ref x].toArray s 221 5710 A) (F0 m 107 ls []) := by
  intro H locs ls hP hD hS hl
  have L2 : ∀ (n k : Nat) (H : Heap) (locs : List Loc) (ls : Array Slot), k ≤ 26 → 26 - k < n → H.size = x + 38 + 4 * (20 + k) → va_P (dC, dI) vwCl (wCt dA x (fpt (fun j => x + 22 + 2 * j) 8) (fpt (fun j => x + 38 + 4 * j) 20) (fpt (fun j => x + 38 + 4 * (20 + j)) k) (tpl dA x (fun _ => tz0) (List.range 8) ++ vpl dA x (fun _ => vz0) (List.range (20 + k)))) H → va_D A (wCt dA x (fpt (fun j => x + 22 + 2 * j) 8) (fpt (fun j => x + 38 + 4 * j) 20) (fpt (fun j => x + 38 + 4 * (20 + j)) k) (tpl dA x (fun _ => tz0) (List.range 8) ++ vpl dA x (fun _ => vz0) (List.range (20 + k)))) → va_S A s.heap H locs → lv_has ls 2 [(1, .int (iI (k : Int))), (0, .ref x)] → W p l e rmMr_init s m [.ref x].toArray below meth c H locs (117 + 4 * k) (3110 + 100 * k) (MQ below (QN (dC, dI) vwCl (tyA dA) (wMr dA x 0 0 0 0 0 0 0 0 0 0 0 0 0 0 0 0 0 0 0 0 .null (fun i => i.toNat) (fun _ => 0) (fun _ => 0) (fun _ => 0) (fun _ => 0) (fun _ => 0) (fun _ => 0) (fun _ => 0) (fun _ => 0) (tl0 dA x (fun _ => vz0) (fun _ => tz0)) : va_W) A) [.ref x].toArray s 221 5710 A) (F0 m 165 ls []) := by
    intro n
    induction n with
    | zero => intro k H locs ls hk hn; omega
    | succ n ih =>
      intro k H locs ls hk hn hz hP hD hS hl
      refine lv_iload_n hx hb dMr_init_165 rfl (lv_at hl 0 rfl) ?_
      refine lv_bipush (v := iI 26) hx hb dMr_init_166 (by decide) ?_
      refine iv_icmp_ge (tgt := 190) hx hb dMr_init_168 (by decide) ⟨by omega, by omega⟩ ⟨by decide, by decide⟩ (fun hc9 => ?_) (fun hc9 => ?_)
      · have ek : k = 26 := by omega
        subst ek
        obtain ⟨hP, hD⟩ := fpt_P (i := 3) (g := tfA x) hP hD rfl (fun _ _ => rfl)
        obtain ⟨hP, hD⟩ := fpt_P (i := 5) (g := sfA x (fun i => i.toNat)) hP hD rfl (fun _ _ => rfl)
        obtain ⟨hP, hD⟩ := fpt_P (i := 6) (g := rfA x) hP hD rfl (fun _ _ => rfl)
        have hP : va_P (dC, dI) vwCl (wMr dA x 0 0 0 0 0 0 0 0 0 0 0 0 0 0 0 0 0 0 0 0 .null (fun i => i.toNat) (fun _ => 0) (fun _ => 0) (fun _ => 0) (fun _ => 0) (fun _ => 0) (fun _ => 0) (fun _ => 0) (fun _ => 0) (tpl dA x (fun _ => tz0) (List.range 8) ++ vpl dA x (fun _ => vz0) (List.range 46))) H := hP
        have hD : va_D A (wMr dA x 0 0 0 0 0 0 0 0 0 0 0 0 0 0 0 0 0 0 0 0 .null (fun i => i.toNat) (fun _ => 0) (fun _ => 0) (fun _ => 0) (fun _ => 0) (fun _ => 0) (fun _ => 0) (fun _ => 0) (fun _ => 0) (tpl dA x (fun _ => tz0) (List.range 8) ++ vpl dA x (fun _ => vz0) (List.range 46))) := hD
        have hP : va_P (dC, dI) vwCl (wMr dA x 0 0 0 0 0 0 0 0 0 0 0 0 0 0 0 0 0 0 0 0 .null (fun i => i.toNat) (fun _ => 0) (fun _ => 0) (fun _ => 0) (fun _ => 0) (fun _ => 0) (fun _ => 0) (fun _ => 0) (fun _ => 0) (tl0 dA x (fun _ => vz0) (fun _ => tz0)) : va_W) H := va_P_pm (wMr_p List.perm_append_comm) hP
        have hD : va_D A (wMr dA x 0 0 0 0 0 0 0 0 0 0 0 0 0 0 0 0 0 0 0 0 .null (fun i => i.toNat) (fun _ => 0) (fun _ => 0) (fun _ => 0) (fun _ => 0) (fun _ => 0) (fun _ => 0) (fun _ => 0) (fun _ => 0) (tl0 dA x (fun _ => vz0) (fun _ => tz0)) : va_W) := va_D_pm (wMr_p List.perm_append_comm) hD
        exact rt_v hx hb hr hlocks hK hS dMr_init_190 () hP hD trivial
      · refine lv_aload_n hx hb dMr_init_171 rfl (lv_at hl 1 rfl) ?_
        refine va_get (D := (dC, dI)) (ci := 6) (v := .ref (x + 6)) (C := "MacroReckoner") (T := TMr) (N := 11) hx hb hts inMr hown hK hP 0 rfl rfl 6 (by decide) (hts _ wt1_179) (fun _ h9 => h9) rfl dMr_init_172 ?_
        refine lv_iload_n hx hb dMr_init_175 rfl (lv_at hl 0 rfl) ?_
        refine va_newH (ci := 4) (fs := [.int (iI 0), .null, .int (iI 0), .int (iI 0), .null, .int (iI 0)]) (C := "MacroReckoner$Value") (T := TVa) (N := 6) hx hb hts inVa tyVa tyVa_ok hown (hts _ wt1_79) (hts _ wt1_81) (hts _ wt1_4) hK hP hD hS hA rfl (by decide +kernel) (by show _ ≤ 221; omega) (by show _ ≤ 5710; omega) dMr_init_176 hz (fun H hP hD hS hz => ?_)
        refine lv_dup hx hb dMr_init_179 rfl ?_
        refine cvN (wr := wCt dA x (fpt (fun j => x + 22 + 2 * j) 8) (fpt (fun j => x + 38 + 4 * j) 20) (fpt (fun j => x + 38 + 4 * (20 + j)) k) (tpl dA x (fun _ => tz0) (List.range 8) ++ vpl dA x (fun _ => vz0) (List.range (20 + k)))) (wc := [(x + 38 + 4 * (20 + k), .inr (4, [.int (iI 0), .null, .int (iI 0), .int (iI 0), .null, .int (iI 0)]))]) (va_runIN (As := []) (rest := [.ref (x + 38 + 4 * (20 + k)), .int (iI (k : Int)), .ref (x + 6)]) ⟨hx, hb, hml, hown, hts⟩ (cVa_init l dC dI dA (x + 38 + 4 * (20 + k)) H.size hz) ⟨va_cnB (host := "MacroReckoner") 0 hts (gd wt1_84) rfl rfl rfl (nM_1 hX.1) (hts _ wt1_4) ⟨by decide, by decide, by decide +kernel⟩ ⟨by decide, by decide⟩, rfl, hts _ wt1_83⟩ (preE (wr := wCt dA x (fpt (fun j => x + 22 + 2 * j) 8) (fpt (fun j => x + 38 + 4 * j) 20) (fpt (fun j => x + 38 + 4 * (20 + j)) k) (tpl dA x (fun _ => tz0) (List.range 8) ++ vpl dA x (fun _ => vz0) (List.range (20 + k)))) hK hP hD hS hA XY_ok hX) rfl rfl hl.1 rfl (lv_room (Nat.le_of_ble_eq_true rfl)) dMr_init_180 ⟨by show _ ≤ 221; omega, by show _ ≤ 5710; omega⟩) hP hD hS hA (fun H locs hP hD hS => ?_)
        have hP : va_P (dC, dI) vwCl (wCt dA x (fpt (fun j => x + 22 + 2 * j) 8) (fpt (fun j => x + 38 + 4 * j) 20) (fpt (fun j => x + 38 + 4 * (20 + j)) k) (tpl dA x (fun _ => tz0) (List.range 8) ++ vpl dA x (fun _ => vz0) (List.range (20 + k))) ++ [(x + 38 + 4 * (20 + k), .inr (4, [.int (iI 0), .ref (x + 38 + 4 * (20 + k) + 1), .int (iI 0), .int (iI 0), .ref (x + 38 + 4 * (20 + k) + 3), .int (iI 0)])), (x + 38 + 4 * (20 + k) + 1, .inr (5, [.ref (x + 38 + 4 * (20 + k) + 2), .int (iI 0)])), (x + 38 + 4 * (20 + k) + 2, .inl (dA 0, 32, .inl (arI (fun _ => 0)))), (x + 38 + 4 * (20 + k) + 3, .inl (dA 1, 60, .inl (arI (fun _ => 0))))]) H := hP
        have hD : va_D A (wCt dA x (fpt (fun j => x + 22 + 2 * j) 8) (fpt (fun j => x + 38 + 4 * j) 20) (fpt (fun j => x + 38 + 4 * (20 + j)) k) (tpl dA x (fun _ => tz0) (List.range 8) ++ vpl dA x (fun _ => vz0) (List.range (20 + k))) ++ [(x + 38 + 4 * (20 + k), .inr (4, [.int (iI 0), .ref (x + 38 + 4 * (20 + k) + 1), .int (iI 0), .int (iI 0), .ref (x + 38 + 4 * (20 + k) + 3), .int (iI 0)])), (x + 38 + 4 * (20 + k) + 1, .inr (5, [.ref (x + 38 + 4 * (20 + k) + 2), .int (iI 0)])), (x + 38 + 4 * (20 + k) + 2, .inl (dA 0, 32, .inl (arI (fun _ => 0)))), (x + 38 + 4 * (20 + k) + 3, .inl (dA 1, 60, .inl (arI (fun _ => 0))))]) := hD
        obtain ⟨qk, hqk⟩ := List.getElem?_of_mem (show ((x + 38 + 4 * (20 + k), .inr (4, [.int (iI 0), .ref (x + 38 + 4 * (20 + k) + 1), .int (iI 0), .int (iI 0), .ref (x + 38 + 4 * (20 + k) + 3), .int (iI 0)])) : Nat × va_E) ∈ (wCt dA x (fpt (fun j => x + 22 + 2 * j) 8) (fpt (fun j => x + 38 + 4 * j) 20) (fpt (fun j => x + 38 + 4 * (20 + j)) k) (tpl dA x (fun _ => tz0) (List.range 8) ++ vpl dA x (fun _ => vz0) (List.range (20 + k))) ++ [(x + 38 + 4 * (20 + k), .inr (4, [.int (iI 0), .ref (x + 38 + 4 * (20 + k) + 1), .int (iI 0), .int (iI 0), .ref (x + 38 + 4 * (20 + k) + 3), .int (iI 0)])), (x + 38 + 4 * (20 + k) + 1, .inr (5, [.ref (x + 38 + 4 * (20 + k) + 2), .int (iI 0)])), (x + 38 + 4 * (20 + k) + 2, .inl (dA 0, 32, .inl (arI (fun _ => 0)))), (x + 38 + 4 * (20 + k) + 3, .inl (dA 1, 60, .inl (arI (fun _ => 0))))] : va_W) from List.mem_append_right _ List.mem_cons_self)
        refine va_astq hx hb hK hP hD hS 6 4 qk 4 (n := 26) (f := fpt (fun j => x + 38 + 4 * (20 + j)) k) rfl rfl hqk rfl (iI_vp (z := (k : Int)) (n := 26) (by omega) (by omega) (by omega)) dMr_init_183 (fun H locs hP hD hS => ?_)
        rw [(iIn (n := k) (by omega)).2, fpt_s (f := fun j => x + 38 + 4 * (20 + j)) rfl] at hP hD
        have hP : va_P (dC, dI) vwCl (wCt dA x (fpt (fun j => x + 22 + 2 * j) 8) (fpt (fun j => x + 38 + 4 * j) 20) (fpt (fun j => x + 38 + 4 * (20 + j)) (k + 1)) ((tpl dA x (fun _ => tz0) (List.range 8) ++ vpl dA x (fun _ => vz0) (List.range (20 + k))) ++ [(x + 38 + 4 * (20 + k), .inr (4, [.int (iI 0), .ref (x + 38 + 4 * (20 + k) + 1), .int (iI 0), .int (iI 0), .ref (x + 38 + 4 * (20 + k) + 3), .int (iI 0)])), (x + 38 + 4 * (20 + k) + 1, .inr (5, [.ref (x + 38 + 4 * (20 + k) + 2), .int (iI 0)])), (x + 38 + 4 * (20 + k) + 2, .inl (dA 0, 32, .inl (arI (fun _ => 0)))), (x + 38 + 4 * (20 + k) + 3, .inl (dA 1, 60, .inl (arI (fun _ => 0))))])) H := hP
        have hD : va_D A (wCt dA x (fpt (fun j => x + 22 + 2 * j) 8) (fpt (fun j => x + 38 + 4 * j) 20) (fpt (fun j => x + 38 + 4 * (20 + j)) (k + 1)) ((tpl dA x (fun _ => tz0) (List.range 8) ++ vpl dA x (fun _ => vz0) (List.range (20 + k))) ++ [(x + 38 + 4 * (20 + k), .inr (4, [.int (iI 0), .ref (x + 38 + 4 * (20 + k) + 1), .int (iI 0), .int (iI 0), .ref (x + 38 + 4 * (20 + k) + 3), .int (iI 0)])), (x + 38 + 4 * (20 + k) + 1, .inr (5, [.ref (x + 38 + 4 * (20 + k) + 2), .int (iI 0)])), (x + 38 + 4 * (20 + k) + 2, .inl (dA 0, 32, .inl (arI (fun _ => 0)))), (x + 38 + 4 * (20 + k) + 3, .inl (dA 1, 60, .inl (arI (fun _ => 0))))])) := hD
        rw [List.append_assoc] at hP hD
        refine W_sz (n := x + 38 + 4 * (20 + (k + 1))) (by omega) (by have h9 : x + 38 + 4 * (20 + k) + 3 < H.size := (va_P_mem.mp hP _ (wCt_m (List.mem_append_right _ (List.mem_append_right _ (List.mem_cons_of_mem _ (List.mem_cons_of_mem _ (List.mem_cons_of_mem _ List.mem_cons_self))))))).lt; omega) (fun hz => ?_)
        have hP : va_P (dC, dI) vwCl (wCt dA x (fpt (fun j => x + 22 + 2 * j) 8) (fpt (fun j => x + 38 + 4 * j) 20) (fpt (fun j => x + 38 + 4 * (20 + j)) (k + 1)) (tpl dA x (fun _ => tz0) (List.range 8) ++ (vpl dA x (fun _ => vz0) (List.range (20 + k)) ++ vcl dA (x + 38 + 4 * (20 + k)) vz0))) H := hP
        have hD : va_D A (wCt dA x (fpt (fun j => x + 22 + 2 * j) 8) (fpt (fun j => x + 38 + 4 * j) 20) (fpt (fun j => x + 38 + 4 * (20 + j)) (k + 1)) (tpl dA x (fun _ => tz0) (List.range 8) ++ (vpl dA x (fun _ => vz0) (List.range (20 + k)) ++ vcl dA (x + 38 + 4 * (20 + k)) vz0))) := hD
        rw [vpl_s (vs := fun _ => vz0), show 20 + k + 1 = 20 + (k + 1) by omega] at hP hD
        refine lv_iinc (k := 0) (lv' := [(1, .int (iI ((k : Int) + 1))), (0, .ref x)]) (v := iI ((k : Int) + 1)) hx hb dMr_init_184 hl rfl (iI_add _ _).symm (by decide) rfl (fun ls hl => ?_)
        refine lv_goto (tgt := 165) hx hb dMr_init_187 (by decide) ?_
        exact W_cs (by omega) (by omega) (ih (k + 1) H locs ls (by omega) (by omega) hz hP hD hS (by rw [show (((k + 1 : Nat)) : Int) = (k : Int) + 1 from rfl]; exact hl))
  have L1 : ∀ (n k : Nat) (H : Heap) (locs : List Loc) (ls : Array Slot), k ≤ 20 → 20 - k < n → H.size = x + 38 + 4 * k → va_P (dC, dI) vwCl (wCt dA x (fpt (fun j => x + 22 + 2 * j) 8) (fpt (fun j => x + 38 + 4 * j) k) (fun _ => none) (tpl dA x (fun _ => tz0) (List.range 8) ++ vpl dA x (fun _ => vz0) (List.range k))) H → va_D A (wCt dA x (fpt (fun j => x + 22 + 2 * j) 8) (fpt (fun j => x + 38 + 4 * j) k) (fun _ => none) (tpl dA x (fun _ => tz0) (List.range 8) ++ vpl dA x (fun _ => vz0) (List.range k))) → va_S A s.heap H locs → lv_has ls 2 [(1, .int (iI (k : Int))), (0, .ref x)] → W p l e rmMr_init s m [.ref x].toArray below meth c H locs (37 + 4 * k) (1110 + 100 * k) (MQ below (QN (dC, dI) vwCl (tyA dA) (wMr dA x 0 0 0 0 0 0 0 0 0 0 0 0 0 0 0 0 0 0 0 0 .null (fun i => i.toNat) (fun _ => 0) (fun _ => 0) (fun _ => 0) (fun _ => 0) (fun _ => 0) (fun _ => 0) (fun _ => 0) (fun _ => 0) (tl0 dA x (fun _ => vz0) (fun _ => tz0)) : va_W) A) [.ref x].toArray s 221 5710 A) (F0 m 138 ls []) := by
    intro n
    induction n with
    | zero => intro k H locs ls hk hn; omega
    | succ n ih =>
      intro k H locs ls hk hn hz hP hD hS hl
      refine lv_iload_n hx hb dMr_init_138 rfl (lv_at hl 0 rfl) ?_
      refine lv_bipush (v := iI 20) hx hb dMr_init_139 (by decide) ?_
      refine iv_icmp_ge (tgt := 163) hx hb dMr_init_141 (by decide) ⟨by omega, by omega⟩ ⟨by decide, by decide⟩ (fun hc9 => ?_) (fun hc9 => ?_)
      · have ek : k = 20 := by omega
        subst ek
        refine lv_iconst (v := iI 0) hx hb dMr_init_163 rfl ?_
        refine lv_istore_n (lv' := [(1, .int (iI 0)), (0, .ref x)]) hx hb dMr_init_164 rfl hl (by decide) rfl (fun ls hl => ?_)
        have hP : va_P (dC, dI) vwCl (wCt dA x (fpt (fun j => x + 22 + 2 * j) 8) (fpt (fun j => x + 38 + 4 * j) 20) (fpt (fun j => x + 38 + 4 * (20 + j)) 0) (tpl dA x (fun _ => tz0) (List.range 8) ++ vpl dA x (fun _ => vz0) (List.range (20 + 0)))) H := by rw [fpt_0 (f := fun j => x + 38 + 4 * (20 + j))]; exact hP
        have hD : va_D A (wCt dA x (fpt (fun j => x + 22 + 2 * j) 8) (fpt (fun j => x + 38 + 4 * j) 20) (fpt (fun j => x + 38 + 4 * (20 + j)) 0) (tpl dA x (fun _ => tz0) (List.range 8) ++ vpl dA x (fun _ => vz0) (List.range (20 + 0)))) := by rw [fpt_0 (f := fun j => x + 38 + 4 * (20 + j))]; exact hD
        exact W_cs (by omega) (by omega) (L2 _ 0 H locs ls (by omega) (Nat.lt_succ_self _) (by omega) hP hD hS hl)
      · refine lv_aload_n hx hb dMr_init_144 rfl (lv_at hl 1 rfl) ?_
        refine va_get (D := (dC, dI)) (ci := 6) (v := .ref (x + 5)) (C := "MacroReckoner") (T := TMr) (N := 11) hx hb hts inMr hown hK hP 0 rfl rfl 4 (by decide) (hts _ wt1_177) (fun _ h9 => h9) rfl dMr_init_145 ?_
        refine lv_iload_n hx hb dMr_init_148 rfl (lv_at hl 0 rfl) ?_
        refine va_newH (ci := 4) (fs := [.int (iI 0), .null, .int (iI 0), .int (iI 0), .null, .int (iI 0)]) (C := "MacroReckoner$Value") (T := TVa) (N := 6) hx hb hts inVa tyVa tyVa_ok hown (hts _ wt1_79) (hts _ wt1_81) (hts _ wt1_4) hK hP hD hS hA rfl (by decide +kernel) (by show _ ≤ 221; omega) (by show _ ≤ 5710; omega) dMr_init_149 hz (fun H hP hD hS hz => ?_)
        refine lv_dup hx hb dMr_init_152 rfl ?_
        refine cvN (wr := wCt dA x (fpt (fun j => x + 22 + 2 * j) 8) (fpt (fun j => x + 38 + 4 * j) k) (fun _ => none) (tpl dA x (fun _ => tz0) (List.range 8) ++ vpl dA x (fun _ => vz0) (List.range k))) (wc := [(x + 38 + 4 * k, .inr (4, [.int (iI 0), .null, .int (iI 0), .int (iI 0), .null, .int (iI 0)]))]) (va_runIN (As := []) (rest := [.ref (x + 38 + 4 * k), .int (iI (k : Int)), .ref (x + 5)]) ⟨hx, hb, hml, hown, hts⟩ (cVa_init l dC dI dA (x + 38 + 4 * k) H.size hz) ⟨va_cnB (host := "MacroReckoner") 0 hts (gd wt1_84) rfl rfl rfl (nM_1 hX.1) (hts _ wt1_4) ⟨by decide, by decide, by decide +kernel⟩ ⟨by decide, by decide⟩, rfl, hts _ wt1_83⟩ (preE (wr := wCt dA x (fpt (fun j => x + 22 + 2 * j) 8) (fpt (fun j => x + 38 + 4 * j) k) (fun _ => none) (tpl dA x (fun _ => tz0) (List.range 8) ++ vpl dA x (fun _ => vz0) (List.range k))) hK hP hD hS hA XY_ok hX) rfl rfl hl.1 rfl (lv_room (Nat.le_of_ble_eq_true rfl)) dMr_init_153 ⟨by show _ ≤ 221; omega, by show _ ≤ 5710; omega⟩) hP hD hS hA (fun H locs hP hD hS => ?_)
        have hP : va_P (dC, dI) vwCl (wCt dA x (fpt (fun j => x + 22 + 2 * j) 8) (fpt (fun j => x + 38 + 4 * j) k) (fun _ => none) (tpl dA x (fun _ => tz0) (List.range 8) ++ vpl dA x (fun _ => vz0) (List.range k)) ++ [(x + 38 + 4 * k, .inr (4, [.int (iI 0), .ref (x + 38 + 4 * k + 1), .int (iI 0), .int (iI 0), .ref (x + 38 + 4 * k + 3), .int (iI 0)])), (x + 38 + 4 * k + 1, .inr (5, [.ref (x + 38 + 4 * k + 2), .int (iI 0)])), (x + 38 + 4 * k + 2, .inl (dA 0, 32, .inl (arI (fun _ => 0)))), (x + 38 + 4 * k + 3, .inl (dA 1, 60, .inl (arI (fun _ => 0))))]) H := hP
        have hD : va_D A (wCt dA x (fpt (fun j => x + 22 + 2 * j) 8) (fpt (fun j => x + 38 + 4 * j) k) (fun _ => none) (tpl dA x (fun _ => tz0) (List.range 8) ++ vpl dA x (fun _ => vz0) (List.range k)) ++ [(x + 38 + 4 * k, .inr (4, [.int (iI 0), .ref (x + 38 + 4 * k + 1), .int (iI 0), .int (iI 0), .ref (x + 38 + 4 * k + 3), .int (iI 0)])), (x + 38 + 4 * k + 1, .inr (5, [.ref (x + 38 + 4 * k + 2), .int (iI 0)])), (x + 38 + 4 * k + 2, .inl (dA 0, 32, .inl (arI (fun _ => 0)))), (x + 38 + 4 * k + 3, .inl (dA 1, 60, .inl (arI (fun _ => 0))))]) := hD
        obtain ⟨qk, hqk⟩ := List.getElem?_of_mem (show ((x + 38 + 4 * k, .inr (4, [.int (iI 0), .ref (x + 38 + 4 * k + 1), .int (iI 0), .int (iI 0), .ref (x + 38 + 4 * k + 3), .int (iI 0)])) : Nat × va_E) ∈ (wCt dA x (fpt (fun j => x + 22 + 2 * j) 8) (fpt (fun j => x + 38 + 4 * j) k) (fun _ => none) (tpl dA x (fun _ => tz0) (List.range 8) ++ vpl dA x (fun _ => vz0) (List.range k)) ++ [(x + 38 + 4 * k, .inr (4, [.int (iI 0), .ref (x + 38 + 4 * k + 1), .int (iI 0), .int (iI 0), .ref (x + 38 + 4 * k + 3), .int (iI 0)])), (x + 38 + 4 * k + 1, .inr (5, [.ref (x + 38 + 4 * k + 2), .int (iI 0)])), (x + 38 + 4 * k + 2, .inl (dA 0, 32, .inl (arI (fun _ => 0)))), (x + 38 + 4 * k + 3, .inl (dA 1, 60, .inl (arI (fun _ => 0))))] : va_W) from List.mem_append_right _ List.mem_cons_self)
        refine va_astq hx hb hK hP hD hS 5 4 qk 4 (n := 20) (f := fpt (fun j => x + 38 + 4 * j) k) rfl rfl hqk rfl (iI_vp (z := (k : Int)) (n := 20) (by omega) (by omega) (by omega)) dMr_init_156 (fun H locs hP hD hS => ?_)
        rw [(iIn (n := k) (by omega)).2, fpt_s (f := fun j => x + 38 + 4 * j) rfl] at hP hD
        have hP : va_P (dC, dI) vwCl (wCt dA x (fpt (fun j => x + 22 + 2 * j) 8) (fpt (fun j => x + 38 + 4 * j) (k + 1)) (fun _ => none) ((tpl dA x (fun _ => tz0) (List.range 8) ++ vpl dA x (fun _ => vz0) (List.range k)) ++ [(x + 38 + 4 * k, .inr (4, [.int (iI 0), .ref (x + 38 + 4 * k + 1), .int (iI 0), .int (iI 0), .ref (x + 38 + 4 * k + 3), .int (iI 0)])), (x + 38 + 4 * k + 1, .inr (5, [.ref (x + 38 + 4 * k + 2), .int (iI 0)])), (x + 38 + 4 * k + 2, .inl (dA 0, 32, .inl (arI (fun _ => 0)))), (x + 38 + 4 * k + 3, .inl (dA 1, 60, .inl (arI (fun _ => 0))))])) H := hP
        have hD : va_D A (wCt dA x (fpt (fun j => x + 22 + 2 * j) 8) (fpt (fun j => x + 38 + 4 * j) (k + 1)) (fun _ => none) ((tpl dA x (fun _ => tz0) (List.range 8) ++ vpl dA x (fun _ => vz0) (List.range k)) ++ [(x + 38 + 4 * k, .inr (4, [.int (iI 0), .ref (x + 38 + 4 * k + 1), .int (iI 0), .int (iI 0), .ref (x + 38 + 4 * k + 3), .int (iI 0)])), (x + 38 + 4 * k + 1, .inr (5, [.ref (x + 38 + 4 * k + 2), .int (iI 0)])), (x + 38 + 4 * k + 2, .inl (dA 0, 32, .inl (arI (fun _ => 0)))), (x + 38 + 4 * k + 3, .inl (dA 1, 60, .inl (arI (fun _ => 0))))])) := hD
        rw [List.append_assoc] at hP hD
        refine W_sz (n := x + 38 + 4 * (k + 1)) (by omega) (by have h9 : x + 38 + 4 * k + 3 < H.size := (va_P_mem.mp hP _ (wCt_m (List.mem_append_right _ (List.mem_append_right _ (List.mem_cons_of_mem _ (List.mem_cons_of_mem _ (List.mem_cons_of_mem _ List.mem_cons_self))))))).lt; omega) (fun hz => ?_)
        have hP : va_P (dC, dI) vwCl (wCt dA x (fpt (fun j => x + 22 + 2 * j) 8) (fpt (fun j => x + 38 + 4 * j) (k + 1)) (fun _ => none) (tpl dA x (fun _ => tz0) (List.range 8) ++ (vpl dA x (fun _ => vz0) (List.range k) ++ vcl dA (x + 38 + 4 * k) vz0))) H := hP
        have hD : va_D A (wCt dA x (fpt (fun j => x + 22 + 2 * j) 8) (fpt (fun j => x + 38 + 4 * j) (k + 1)) (fun _ => none) (tpl dA x (fun _ => tz0) (List.range 8) ++ (vpl dA x (fun _ => vz0) (List.range k) ++ vcl dA (x + 38 + 4 * k) vz0))) := hD
        rw [vpl_s (vs := fun _ => vz0)] at hP hD
        refine lv_iinc (k := 0) (lv' := [(1, .int (iI ((k : Int) + 1))), (0, .ref x)]) (v := iI ((k : Int) + 1)) hx hb dMr_init_157 hl rfl (iI_add _ _).symm (by decide) rfl (fun ls hl => ?_)
        refine lv_goto (tgt := 138) hx hb dMr_init_160 (by decide) ?_
        exact W_cs (by omega) (by omega) (ih (k + 1) H locs ls (by omega) (by omega) hz hP hD hS (by rw [show (((k + 1 : Nat)) : Int) = (k : Int) + 1 from rfl]; exact hl))
  have L0 : ∀ (n k : Nat) (H : Heap) (locs : List Loc) (ls : Array Slot), k ≤ 8 → 8 - k < n → H.size = x + 22 + 2 * k → va_P (dC, dI) vwCl (wCt dA x (fpt (fun j => x + 22 + 2 * j) k) (fun _ => none) (fun _ => none) (tpl dA x (fun _ => tz0) (List.range k))) H → va_D A (wCt dA x (fpt (fun j => x + 22 + 2 * j) k) (fun _ => none) (fun _ => none) (tpl dA x (fun _ => tz0) (List.range k))) → va_S A s.heap H locs → lv_has ls 2 [(1, .int (iI (k : Int))), (0, .ref x)] → W p l e rmMr_init s m [.ref x].toArray below meth c H locs (21 + 2 * k) (606 + 63 * k) (MQ below (QN (dC, dI) vwCl (tyA dA) (wMr dA x 0 0 0 0 0 0 0 0 0 0 0 0 0 0 0 0 0 0 0 0 .null (fun i => i.toNat) (fun _ => 0) (fun _ => 0) (fun _ => 0) (fun _ => 0) (fun _ => 0) (fun _ => 0) (fun _ => 0) (fun _ => 0) (tl0 dA x (fun _ => vz0) (fun _ => tz0)) : va_W) A) [.ref x].toArray s 221 5710 A) (F0 m 109 ls []) := by
    intro n
    induction n with
    | zero => intro k H locs ls hk hn; omega
    | succ n ih =>
      intro k H locs ls hk hn hz hP hD hS hl
      refine lv_iload_n hx hb dMr_init_109 rfl (lv_at hl 0 rfl) ?_
      refine lv_bipush (v := iI 8) hx hb dMr_init_110 (by decide) ?_
      refine iv_icmp_ge (tgt := 136) hx hb dMr_init_112 (by decide) ⟨by omega, by omega⟩ ⟨by decide, by decide⟩ (fun hc9 => ?_) (fun hc9 => ?_)
      · have ek : k = 8 := by omega
        subst ek
        refine lv_iconst (v := iI 0) hx hb dMr_init_136 rfl ?_
        refine lv_istore_n (lv' := [(1, .int (iI 0)), (0, .ref x)]) hx hb dMr_init_137 rfl hl (by decide) rfl (fun ls hl => ?_)
        have hP : va_P (dC, dI) vwCl (wCt dA x (fpt (fun j => x + 22 + 2 * j) 8) (fpt (fun j => x + 38 + 4 * j) 0) (fun _ => none) (tpl dA x (fun _ => tz0) (List.range 8) ++ vpl dA x (fun _ => vz0) (List.range 0))) H := by rw [fpt_0 (f := fun j => x + 38 + 4 * j), show vpl dA x (fun _ => vz0) (List.range 0) = [] from rfl, List.append_nil]; exact hP
        have hD : va_D A (wCt dA x (fpt (fun j => x + 22 + 2 * j) 8) (fpt (fun j => x + 38 + 4 * j) 0) (fun _ => none) (tpl dA x (fun _ => tz0) (List.range 8) ++ vpl dA x (fun _ => vz0) (List.range 0))) := by rw [fpt_0 (f := fun j => x + 38 + 4 * j), show vpl dA x (fun _ => vz0) (List.range 0) = [] from rfl, List.append_nil]; exact hD
        exact W_cs (by omega) (by omega) (L1 _ 0 H locs ls (by omega) (Nat.lt_succ_self _) (by omega) hP hD hS hl)
      · refine lv_aload_n hx hb dMr_init_115 rfl (lv_at hl 1 rfl) ?_
        refine va_get (D := (dC, dI)) (ci := 6) (v := .ref (x + 3)) (C := "MacroReckoner") (T := TMr) (N := 11) hx hb hts inMr hown hK hP 0 rfl rfl 1 (by decide) (hts _ wt1_174) (fun _ h9 => h9) rfl dMr_init_116 ?_
        refine lv_iload_n hx hb dMr_init_119 rfl (lv_at hl 0 rfl) ?_
        refine va_newH (ci := 2) (fs := [.null, .int (iI 0), .int (iI 0)]) (C := "MacroReckoner$Tape") (T := TTa) (N := 3) hx hb hts inTa tyTa tyTa_ok hown (hts _ wt1_28) (hts _ wt1_29) (hts _ wt1_2) hK hP hD hS hA rfl (by decide +kernel) (by show _ ≤ 221; omega) (by show _ ≤ 5710; omega) dMr_init_120 hz (fun H hP hD hS hz => ?_)
        refine lv_dup hx hb dMr_init_123 rfl ?_
        refine lv_bipush (v := iI 60) hx hb dMr_init_124 (by decide) ?_
        refine cvN (wr := wCt dA x (fpt (fun j => x + 22 + 2 * j) k) (fun _ => none) (fun _ => none) (tpl dA x (fun _ => tz0) (List.range k))) (wc := [(x + 22 + 2 * k, .inr (2, [.null, .int (iI 0), .int (iI 0)]))]) (va_runI (As := [.int (iI 60)]) (rest := [.ref (x + 22 + 2 * k), .int (iI (k : Int)), .ref (x + 3)]) ⟨hx, hb, hml, hown, hts⟩ (cTa_init_60 l dC dI dA (x + 22 + 2 * k) H.size hz) (cwI 1 hts (gd wt1_32) rfl rfl rfl (hts _ wt1_2) (hts _ wt1_30) (hts _ wt1_31) rfl ⟨by decide, by decide, by decide +kernel⟩ ⟨by decide, by decide⟩) (preE (wr := wCt dA x (fpt (fun j => x + 22 + 2 * j) k) (fun _ => none) (fun _ => none) (tpl dA x (fun _ => tz0) (List.range k))) hK hP hD hS hA XY_ok hX) rfl rfl hl.1 rfl (lv_room (Nat.le_of_ble_eq_true rfl)) dMr_init_126 ⟨by show _ ≤ 221; omega, by show _ ≤ 5710; omega⟩) hP hD hS hA (fun H locs hP hD hS => ?_)
        have hP : va_P (dC, dI) vwCl (wCt dA x (fpt (fun j => x + 22 + 2 * j) k) (fun _ => none) (fun _ => none) (tpl dA x (fun _ => tz0) (List.range k)) ++ [(x + 22 + 2 * k, .inr (2, [.ref (x + 22 + 2 * k + 1), .int (iI 0), .int (iI 0)])), (x + 22 + 2 * k + 1, .inl (dA 1, 60, .inl (arI (fun _ => 0))))]) H := hP
        have hD : va_D A (wCt dA x (fpt (fun j => x + 22 + 2 * j) k) (fun _ => none) (fun _ => none) (tpl dA x (fun _ => tz0) (List.range k)) ++ [(x + 22 + 2 * k, .inr (2, [.ref (x + 22 + 2 * k + 1), .int (iI 0), .int (iI 0)])), (x + 22 + 2 * k + 1, .inl (dA 1, 60, .inl (arI (fun _ => 0))))]) := hD
        obtain ⟨qk, hqk⟩ := List.getElem?_of_mem (show ((x + 22 + 2 * k, .inr (2, [.ref (x + 22 + 2 * k + 1), .int (iI 0), .int (iI 0)])) : Nat × va_E) ∈ (wCt dA x (fpt (fun j => x + 22 + 2 * j) k) (fun _ => none) (fun _ => none) (tpl dA x (fun _ => tz0) (List.range k)) ++ [(x + 22 + 2 * k, .inr (2, [.ref (x + 22 + 2 * k + 1), .int (iI 0), .int (iI 0)])), (x + 22 + 2 * k + 1, .inl (dA 1, 60, .inl (arI (fun _ => 0))))] : va_W) from List.mem_append_right _ List.mem_cons_self)
        refine va_astq hx hb hK hP hD hS 3 5 qk 2 (n := 8) (f := fpt (fun j => x + 22 + 2 * j) k) rfl rfl hqk rfl (iI_vp (z := (k : Int)) (n := 8) (by omega) (by omega) (by omega)) dMr_init_129 (fun H locs hP hD hS => ?_)
        rw [(iIn (n := k) (by omega)).2, fpt_s (f := fun j => x + 22 + 2 * j) rfl] at hP hD
        have hP : va_P (dC, dI) vwCl (wCt dA x (fpt (fun j => x + 22 + 2 * j) (k + 1)) (fun _ => none) (fun _ => none) (tpl dA x (fun _ => tz0) (List.range k) ++ [(x + 22 + 2 * k, .inr (2, [.ref (x + 22 + 2 * k + 1), .int (iI 0), .int (iI 0)])), (x + 22 + 2 * k + 1, .inl (dA 1, 60, .inl (arI (fun _ => 0))))])) H := hP
        have hD : va_D A (wCt dA x (fpt (fun j => x + 22 + 2 * j) (k + 1)) (fun _ => none) (fun _ => none) (tpl dA x (fun _ => tz0) (List.range k) ++ [(x + 22 + 2 * k, .inr (2, [.ref (x + 22 + 2 * k + 1), .int (iI 0), .int (iI 0)])), (x + 22 + 2 * k + 1, .inl (dA 1, 60, .inl (arI (fun _ => 0))))])) := hD
        refine W_sz (n := x + 22 + 2 * (k + 1)) (by omega) (by have h9 : x + 22 + 2 * k + 1 < H.size := (va_P_mem.mp hP _ (wCt_m (List.mem_append_right _ (List.mem_cons_of_mem _ List.mem_cons_self)))).lt; omega) (fun hz => ?_)
        have hP : va_P (dC, dI) vwCl (wCt dA x (fpt (fun j => x + 22 + 2 * j) (k + 1)) (fun _ => none) (fun _ => none) (tpl dA x (fun _ => tz0) (List.range k) ++ tcl dA (x + 22 + 2 * k) tz0)) H := hP
        have hD : va_D A (wCt dA x (fpt (fun j => x + 22 + 2 * j) (k + 1)) (fun _ => none) (fun _ => none) (tpl dA x (fun _ => tz0) (List.range k) ++ tcl dA (x + 22 + 2 * k) tz0)) := hD
        rw [tpl_s (tp := fun _ => tz0)] at hP hD
        refine lv_iinc (k := 0) (lv' := [(1, .int (iI ((k : Int) + 1))), (0, .ref x)]) (v := iI ((k : Int) + 1)) hx hb dMr_init_130 hl rfl (iI_add _ _).symm (by decide) rfl (fun ls hl => ?_)
        refine lv_goto (tgt := 109) hx hb dMr_init_133 (by decide) ?_
        exact W_cs (by omega) (by omega) (ih (k + 1) H locs ls (by omega) (by omega) hz hP hD hS (by rw [show (((k + 1 : Nat)) : Int) = (k : Int) + 1 from rfl]; exact hl))
  refine lv_iconst (v := iI 0) hx hb dMr_init_107 rfl ?_
  refine lv_istore_n (lv' := [(1, .int (iI 0)), (0, .ref x)]) hx hb dMr_init_108 rfl hl (by decide) rfl (fun ls hl => ?_)
  refine W_sz (n := x + 22) (by omega) (by have h9 : x + 21 < H.size := (hP 21 _ rfl).lt; omega) (fun hz => ?_)
  have hP : va_P (dC, dI) vwCl (wCt dA x (fpt (fun j => x + 22 + 2 * j) 0) (fun _ => none) (fun _ => none) (tpl dA x (fun _ => tz0) (List.range 0))) H := by rw [fpt_0 (f := fun j => x + 22 + 2 * j)]; exact hP
  have hD : va_D A (wCt dA x (fpt (fun j => x + 22 + 2 * j) 0) (fun _ => none) (fun _ => none) (tpl dA x (fun _ => tz0) (List.range 0))) := by rw [fpt_0 (f := fun j => x + 22 + 2 * j)]; exact hD
  exact L0 _ 0 H locs ls (by omega) (Nat.lt_succ_self _) (by omega) hP hD hS hl
theorem cMr_init (l : Launch) (dC : Nat → ClassId) (dI : Nat → Nat → Nat) (dA : Nat → ClassId) (x : Nat) (sz : Nat) (hz0 : sz = x + 1) : Met l yMr_init wsMr_init rmMr_init (PC (dC, dI) vwCl (tyA dA) XY [.ref x] [(x, .inr (6, [.null, .null, .int (iI 0), .null, .null, .int (iI 0), .null, .int (iI 0), .null, .null, .null]))] sz) (QN (dC, dI) vwCl (tyA dA) (wMr dA x 0 0 0 0 0 0 0 0 0 0 0 0 0 0 0 0 0 0 0 0 .null (fun i => i.toNat) (fun _ => 0) (fun _ => 0) (fun _ => 0) (fun _ => 0) (fun _ => 0) (fun _ => 0) (fun _ => 0) (fun _ => 0) (tl0 dA x (fun _ => vz0) (fun _ => tz0)) : va_W) (va_A [(x, .inr (6, [.null, .null, .int (iI 0), .null, .null, .int (iI 0), .null, .int (iI 0), .null, .null, .null]))] sz)) 221 5710 (va_A [(x, .inr (6, [.null, .null, .int (iI 0), .null, .null, .int (iI 0), .null, .int (iI 0), .null, .null, .null]))] sz) := by
  refine met_ofN (cc := prog_1_method_1_code) (maxL := 2) (ret := none) (Qc := fun A => QN (dC, dI) vwCl (tyA dA) (wMr dA x 0 0 0 0 0 0 0 0 0 0 0 0 0 0 0 0 0 0 0 0 .null (fun i => i.toNat) (fun _ => 0) (fun _ => 0) (fun _ => 0) (fun _ => 0) (fun _ => 0) (fun _ => 0) (fun _ => 0) (fun _ => 0) (tl0 dA x (fun _ => vz0) (fun _ => tz0)) : va_W) A) (by decide) rfl (Nat.le_of_ble_eq_true rfl) ?_
  intro p e s m below meth c ls A hx hb hr hml hown hts hlocks hnm hK hP hD hA hX hS hl hsz
  have hsz : s.heap.size = x + 1 := hsz.trans hz0
  exact mr_str hx hb hml hown hts hK hA hX hsz hnm hP hD hS hl (fun H locs hP hD hS => mr_loops hx hb hml hown hts hK hA hX hsz hr hlocks H locs ls hP hD hS hl)
