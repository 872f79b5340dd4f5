/-! the reference's constructor: an array made and put into its field, a step at a time -/
theorem mo_s {p : Program} {l : Launch} {e : Env} {R : Room} {s : State} {m : MethodId} {args : Array Value} {below : List Frame} {meth : Method} {c : Code} {H : Heap} {locs : List Loc} {cells slots : Nat} {Q : State → Prop} {cc : ByteArray} {pc : Nat} {ls : Array Slot} {A : Nat → Prop} {dC : Nat → ClassId} {dI : Nat → Nat → Nat} {dA : Nat → ClassId} (hx : p.tables.exec = Jvm.exec) (hb : c.code = cc) (hts : ∀ w ∈ wg, w.before args s = true) (hown : s.vm.findClass "MacroReckonerModel" = some m.cls) (hmn : meth.name = "<init>") (hK : va_K (dC, dI) vwCl (tyA dA) s) (hA : ∀ q, s.heap.size ≤ q → A q) {x h n k idx : Nat} {fs : List Value} {w : va_W} {at_ : ArrayType} {ty fty : FieldType} {cA0 : ClassId}
    (hP : va_P (dC, dI) vwCl ((x, .inr (7, fs)) :: w) H) (hD : va_D A ((x, .inr (7, fs)) :: w)) (hS : va_S A s.heap H locs) (h1 : s.heap.size + cells ≤ h) (h2 : h ≤ H.size) (hfs : fs.length = 23) (harr : (Cond.arrayClass ty).before args s = true) (hty : newarray.typeOf at_ = ty) (hdv : defaultValue ty = .int 0) (hc0 : s.vm.findClass ("[" ++ ty.toString) = some cA0) (hn : n < 2147483647) (hby : n * componentBytes ty ≤ 536870912) (hc : cells + 1 ≤ R.cells) (hsl : slots + n ≤ R.slots) (dN : decode cc pc = .ok (.newarray at_, 2)) (dP : decode cc (pc + 2) = .ok (.putfield idx, 3)) (hk : k < 23) (hlk : (Cond.fieldLink "MacroReckonerModel" idx "MacroReckonerModel" (TMo k).2.1 (TMo k).2.2.1).before args s = true) (hfin : (TMo k).2.2.2 = true) (ho1 : (TMo k).1 = "MacroReckonerModel") (hpd : parseFieldDescriptor (TMo k).2.2.1 = some fty) (hnr : narrow fty (.ref h) = .ref h) (hft : fits fty (.ref h) = true)
    (kk : ∀ (H1 : Heap) (locs1 : List Loc), va_P (dC, dI) vwCl ((x, .inr (7, fs.set k (.ref h))) :: (w ++ [(h, .inl (cA0, n, .inl (arI (fun _ => 0))))])) H1 → va_D A ((x, .inr (7, fs.set k (.ref h))) :: (w ++ [(h, .inl (cA0, n, .inl (arI (fun _ => 0))))])) → va_S A s.heap H1 locs1 → h + 1 ≤ H1.size → (fs.set k (.ref h)).length = 23 → W p l e R s m args below meth c H1 locs1 (cells + 1) (slots + n) Q (F0 m (pc + 2 + 3) ls [])) : W p l e R s m args below meth c H locs cells slots Q (F0 m pc ls [.int (iI (n : Int)), .ref x]) := by
  refine W_sz (n := h) h1 h2 (fun hz => ?_)
  refine va_newaH (ws := (x, .inr (7, fs)) :: w) (n := iI (n : Int)) (N' := n) (a0 := (n, .inl (arI (fun _ => 0)))) (ty := ty) hx hb (by rw [hty]; exact harr) hty hP hD hS hA (zar hdv) hc0 (iIn hn).1 (iIn hn).2 hby hc hsl dN hz (fun H hP hD hS hz => ?_)
  have hP : va_P (dC, dI) vwCl ((x, .inr (7, fs)) :: (w ++ [(h, .inl (cA0, n, .inl (arI (fun _ => 0))))]) : va_W) H := hP
  have hD : va_D A ((x, .inr (7, fs)) :: (w ++ [(h, .inl (cA0, n, .inl (arI (fun _ => 0))))]) : va_W) := hD
  refine va_putF (D := (dC, dI)) (ci := 7) (fs := fs) (v := .ref h) (ty := fty) (C := "MacroReckonerModel") (T := TMo) (N := 23) hx hb hts inMo tyMo tyMo_ok nmMo hown hK hP hD hS 0 rfl rfl k hk hlk (fun y h9 => by rw [ho1] at h9; exact h9) hfin hmn ho1 hpd hnr hft (by omega) dP (fun H locs hP hD hS => ?_)
  refine kk H locs hP hD hS ?_ (by rw [List.length_set]; exact hfs)
  have hP9 : va_P (dC, dI) vwCl ((x, .inr (7, fs.set k (.ref h))) :: (w ++ [(h, .inl (cA0, n, .inl (arI (fun _ => 0))))])) H := hP
  exact (va_P_mem.mp hP9 _ (List.mem_cons_of_mem _ (List.mem_append_right _ List.mem_cons_self))).lt
theorem W_cs {p : Program} {l : Launch} {e : Env} {R : Room} {s : State} {m : MethodId} {args : Array Value} {below : List Frame} {meth : Method} {c : Code} {H : Heap} {locs : List Loc} {c1 c2 s1 s2 : Nat} {Q : State → Prop} {g : JFrame} (h1 : c1 = c2) (h2 : s1 = s2) (k : W p l e R s m args below meth c H locs c2 s2 Q g) : W p l e R s m args below meth c H locs c1 s1 Q g := by
  subst h1
  subst h2
  exact k
theorem dMo_init_0 : decode prog_9_method_1_code 0 = .ok (.aload_n 0, 1) := by decide +kernel
theorem dMo_init_1 : decode prog_9_method_1_code 1 = .ok (.invokespecial 1, 3) := by decide +kernel
theorem dMo_init_4 : decode prog_9_method_1_code 4 = .ok (.aload_n 0, 1) := by decide +kernel
theorem dMo_init_5 : decode prog_9_method_1_code 5 = .ok (.bipush 100, 2) := by decide +kernel
theorem dMo_init_7 : decode prog_9_method_1_code 7 = .ok (.newarray .int, 2) := by decide +kernel
theorem dMo_init_9 : decode prog_9_method_1_code 9 = .ok (.putfield 7, 3) := by decide +kernel
theorem dMo_init_12 : decode prog_9_method_1_code 12 = .ok (.aload_n 0, 1) := by decide +kernel
theorem dMo_init_13 : decode prog_9_method_1_code 13 = .ok (.bipush 47, 2) := by decide +kernel
theorem dMo_init_15 : decode prog_9_method_1_code 15 = .ok (.newarray .boolean, 2) := by decide +kernel
theorem dMo_init_17 : decode prog_9_method_1_code 17 = .ok (.putfield 13, 3) := by decide +kernel
theorem dMo_init_20 : decode prog_9_method_1_code 20 = .ok (.aload_n 0, 1) := by decide +kernel
theorem dMo_init_21 : decode prog_9_method_1_code 21 = .ok (.bipush 47, 2) := by decide +kernel
theorem dMo_init_23 : decode prog_9_method_1_code 23 = .ok (.newarray .int, 2) := by decide +kernel
theorem dMo_init_25 : decode prog_9_method_1_code 25 = .ok (.putfield 17, 3) := by decide +kernel
theorem dMo_init_28 : decode prog_9_method_1_code 28 = .ok (.aload_n 0, 1) := by decide +kernel
theorem dMo_init_29 : decode prog_9_method_1_code 29 = .ok (.bipush 47, 2) := by decide +kernel
theorem dMo_init_31 : decode prog_9_method_1_code 31 = .ok (.newarray .int, 2) := by decide +kernel
theorem dMo_init_33 : decode prog_9_method_1_code 33 = .ok (.putfield 20, 3) := by decide +kernel
theorem dMo_init_36 : decode prog_9_method_1_code 36 = .ok (.aload_n 0, 1) := by decide +kernel
theorem dMo_init_37 : decode prog_9_method_1_code 37 = .ok (.bipush 47, 2) := by decide +kernel
theorem dMo_init_39 : decode prog_9_method_1_code 39 = .ok (.newarray .int, 2) := by decide +kernel
theorem dMo_init_41 : decode prog_9_method_1_code 41 = .ok (.putfield 23, 3) := by decide +kernel
theorem dMo_init_44 : decode prog_9_method_1_code 44 = .ok (.aload_n 0, 1) := by decide +kernel
theorem dMo_init_45 : decode prog_9_method_1_code 45 = .ok (.sipush 2820, 3) := by decide +kernel
theorem dMo_init_48 : decode prog_9_method_1_code 48 = .ok (.newarray .int, 2) := by decide +kernel
theorem dMo_init_50 : decode prog_9_method_1_code 50 = .ok (.putfield 26, 3) := by decide +kernel
theorem dMo_init_53 : decode prog_9_method_1_code 53 = .ok (.aload_n 0, 1) := by decide +kernel
theorem dMo_init_54 : decode prog_9_method_1_code 54 = .ok (.bipush 8, 2) := by decide +kernel
theorem dMo_init_56 : decode prog_9_method_1_code 56 = .ok (.newarray .int, 2) := by decide +kernel
theorem dMo_init_58 : decode prog_9_method_1_code 58 = .ok (.putfield 29, 3) := by decide +kernel
theorem dMo_init_61 : decode prog_9_method_1_code 61 = .ok (.aload_n 0, 1) := by decide +kernel
theorem dMo_init_62 : decode prog_9_method_1_code 62 = .ok (.bipush 8, 2) := by decide +kernel
theorem dMo_init_64 : decode prog_9_method_1_code 64 = .ok (.newarray .int, 2) := by decide +kernel
theorem dMo_init_66 : decode prog_9_method_1_code 66 = .ok (.putfield 32, 3) := by decide +kernel
theorem dMo_init_69 : decode prog_9_method_1_code 69 = .ok (.aload_n 0, 1) := by decide +kernel
theorem dMo_init_70 : decode prog_9_method_1_code 70 = .ok (.sipush 480, 3) := by decide +kernel
theorem dMo_init_73 : decode prog_9_method_1_code 73 = .ok (.newarray .int, 2) := by decide +kernel
theorem dMo_init_75 : decode prog_9_method_1_code 75 = .ok (.putfield 35, 3) := by decide +kernel
theorem dMo_init_78 : decode prog_9_method_1_code 78 = .ok (.aload_n 0, 1) := by decide +kernel
theorem dMo_init_79 : decode prog_9_method_1_code 79 = .ok (.sipush 200, 3) := by decide +kernel
theorem dMo_init_82 : decode prog_9_method_1_code 82 = .ok (.newarray .int, 2) := by decide +kernel
theorem dMo_init_84 : decode prog_9_method_1_code 84 = .ok (.putfield 38, 3) := by decide +kernel
theorem dMo_init_87 : decode prog_9_method_1_code 87 = .ok (.aload_n 0, 1) := by decide +kernel
theorem dMo_init_88 : decode prog_9_method_1_code 88 = .ok (.bipush 100, 2) := by decide +kernel
theorem dMo_init_90 : decode prog_9_method_1_code 90 = .ok (.newarray .int, 2) := by decide +kernel
theorem dMo_init_92 : decode prog_9_method_1_code 92 = .ok (.putfield 41, 3) := by decide +kernel
theorem dMo_init_95 : decode prog_9_method_1_code 95 = .ok (.aload_n 0, 1) := by decide +kernel
theorem dMo_init_96 : decode prog_9_method_1_code 96 = .ok (.sipush 1700, 3) := by decide +kernel
theorem dMo_init_99 : decode prog_9_method_1_code 99 = .ok (.newarray .int, 2) := by decide +kernel
theorem dMo_init_101 : decode prog_9_method_1_code 101 = .ok (.putfield 44, 3) := by decide +kernel
theorem dMo_init_104 : decode prog_9_method_1_code 104 = .ok (.aload_n 0, 1) := by decide +kernel
theorem dMo_init_105 : decode prog_9_method_1_code 105 = .ok (.iconst 5, 1) := by decide +kernel
theorem dMo_init_106 : decode prog_9_method_1_code 106 = .ok (.newarray .int, 2) := by decide +kernel
theorem dMo_init_108 : decode prog_9_method_1_code 108 = .ok (.putfield 47, 3) := by decide +kernel
theorem dMo_init_111 : decode prog_9_method_1_code 111 = .ok (.return_, 1) := by decide +kernel
abbrev rmMo_init : Room := { frames := 1, cells := 13, slots := 5609, locals := 12 }
set_option maxRecDepth 100000 in
set_option maxHeartbeats 4000000 in
theorem cMo_init (l : Launch) (dC : Nat → ClassId) (dI : Nat → Nat → Nat) (dA : Nat → ClassId) (x : Nat)  (sz : Nat) (hz0 : sz = x + 1) : Met l yMo_init wsMo_init rmMo_init (PC (dC, dI) vwCl (tyA dA) XY [.ref x] [(x, .inr (7, [.int (iI 0), .int (iI 0), .null, .null, .null, .null, .null, .null, .int (iI 0), .int (iI 0), .int (iI 0), .null, .null, .null, .int (iI 0), .null, .int (iI 0), .int (iI 0), .int (iI 0), .null, .int (iI 0), .null, .null]))] sz) (QN (dC, dI) vwCl (tyA dA) ([(x, .inr (7, [.int (iI 0), .int (iI 0), .ref (x + 1), .ref (x + 2), .ref (x + 3), .ref (x + 4), .ref (x + 5), .ref (x + 6), .int (iI 0), .int (iI 0), .int (iI 0), .ref (x + 7), .ref (x + 8), .ref (x + 9), .int (iI 0), .ref (x + 10), .int (iI 0), .int (iI 0), .int (iI 0), .ref (x + 11), .int (iI 0), .ref (x + 12), .ref (x + 13)])), (x + 1, .inl (dA 0, 100, .inl (arI (fun _ => 0)))), (x + 2, .inl (dA 2, 47, .inl (arI (fun _ => 0)))), (x + 3, .inl (dA 0, 47, .inl (arI (fun _ => 0)))), (x + 4, .inl (dA 0, 47, .inl (arI (fun _ => 0)))), (x + 5, .inl (dA 0, 47, .inl (arI (fun _ => 0)))), (x + 6, .inl (dA 0, 2820, .inl (arI (fun _ => 0)))), (x + 7, .inl (dA 0, 8, .inl (arI (fun _ => 0)))), (x + 8, .inl (dA 0, 8, .inl (arI (fun _ => 0)))), (x + 9, .inl (dA 0, 480, .inl (arI (fun _ => 0)))), (x + 10, .inl (dA 0, 200, .inl (arI (fun _ => 0)))), (x + 11, .inl (dA 0, 100, .inl (arI (fun _ => 0)))), (x + 12, .inl (dA 0, 1700, .inl (arI (fun _ => 0)))), (x + 13, .inl (dA 0, 5, .inl (arI (fun _ => 0))))] : va_W) (va_A [(x, .inr (7, [.int (iI 0), .int (iI 0), .null, .null, .null, .null, .null, .null, .int (iI 0), .int (iI 0), .int (iI 0), .null, .null, .null, .int (iI 0), .null, .int (iI 0), .int (iI 0), .int (iI 0), .null, .int (iI 0), .null, .null]))] sz)) 13 5609 (va_A [(x, .inr (7, [.int (iI 0), .int (iI 0), .null, .null, .null, .null, .null, .null, .int (iI 0), .int (iI 0), .int (iI 0), .null, .null, .null, .int (iI 0), .null, .int (iI 0), .int (iI 0), .int (iI 0), .null, .int (iI 0), .null, .null]))] sz) := by
  refine met_ofN (cc := prog_9_method_1_code) (maxL := 1) (ret := none) (Qc := fun A => QN (dC, dI) vwCl (tyA dA) ([(x, .inr (7, [.int (iI 0), .int (iI 0), .ref (x + 1), .ref (x + 2), .ref (x + 3), .ref (x + 4), .ref (x + 5), .ref (x + 6), .int (iI 0), .int (iI 0), .int (iI 0), .ref (x + 7), .ref (x + 8), .ref (x + 9), .int (iI 0), .ref (x + 10), .int (iI 0), .int (iI 0), .int (iI 0), .ref (x + 11), .int (iI 0), .ref (x + 12), .ref (x + 13)])), (x + 1, .inl (dA 0, 100, .inl (arI (fun _ => 0)))), (x + 2, .inl (dA 2, 47, .inl (arI (fun _ => 0)))), (x + 3, .inl (dA 0, 47, .inl (arI (fun _ => 0)))), (x + 4, .inl (dA 0, 47, .inl (arI (fun _ => 0)))), (x + 5, .inl (dA 0, 47, .inl (arI (fun _ => 0)))), (x + 6, .inl (dA 0, 2820, .inl (arI (fun _ => 0)))), (x + 7, .inl (dA 0, 8, .inl (arI (fun _ => 0)))), (x + 8, .inl (dA 0, 8, .inl (arI (fun _ => 0)))), (x + 9, .inl (dA 0, 480, .inl (arI (fun _ => 0)))), (x + 10, .inl (dA 0, 200, .inl (arI (fun _ => 0)))), (x + 11, .inl (dA 0, 100, .inl (arI (fun _ => 0)))), (x + 12, .inl (dA 0, 1700, .inl (arI (fun _ => 0)))), (x + 13, .inl (dA 0, 5, .inl (arI (fun _ => 0))))] : va_W) A) (by decide) rfl (Nat.le_of_ble_eq_true rfl) ?_
  intro p e s m below meth c ls A hx hb hr hml hown hts hlocks hnm hK hP hD hA hX hS hl hsz
  have hl : lv_has ls 1 [(0, .ref x)] := hl
  have hown : s.vm.findClass "MacroReckonerModel" = some m.cls := hown
  have hty := tyI hK
  have hsz : s.heap.size = x + 1 := hsz.trans hz0
  obtain ⟨H, hH⟩ : ∃ H : Heap, H = s.heap := ⟨_, rfl⟩
  obtain ⟨locs, hlo⟩ : ∃ L : List Loc, L = [] := ⟨_, rfl⟩
  have hP : va_P (dC, dI) vwCl ([(x, .inr (7, [.int (iI 0), .int (iI 0), .null, .null, .null, .null, .null, .null, .int (iI 0), .int (iI 0), .int (iI 0), .null, .null, .null, .int (iI 0), .null, .int (iI 0), .int (iI 0), .int (iI 0), .null, .int (iI 0), .null, .null]))] : va_W) H := hH ▸ hP
  have hS : va_S A s.heap H locs := by rw [hH, hlo]; exact hS
  suffices hgo : W p l e rmMo_init s m [.ref x].toArray below meth c H locs 0 0 (MQ below (QN (dC, dI) vwCl (tyA dA) ([(x, .inr (7, [.int (iI 0), .int (iI 0), .ref (x + 1), .ref (x + 2), .ref (x + 3), .ref (x + 4), .ref (x + 5), .ref (x + 6), .int (iI 0), .int (iI 0), .int (iI 0), .ref (x + 7), .ref (x + 8), .ref (x + 9), .int (iI 0), .ref (x + 10), .int (iI 0), .int (iI 0), .int (iI 0), .ref (x + 11), .int (iI 0), .ref (x + 12), .ref (x + 13)])), (x + 1, .inl (dA 0, 100, .inl (arI (fun _ => 0)))), (x + 2, .inl (dA 2, 47, .inl (arI (fun _ => 0)))), (x + 3, .inl (dA 0, 47, .inl (arI (fun _ => 0)))), (x + 4, .inl (dA 0, 47, .inl (arI (fun _ => 0)))), (x + 5, .inl (dA 0, 47, .inl (arI (fun _ => 0)))), (x + 6, .inl (dA 0, 2820, .inl (arI (fun _ => 0)))), (x + 7, .inl (dA 0, 8, .inl (arI (fun _ => 0)))), (x + 8, .inl (dA 0, 8, .inl (arI (fun _ => 0)))), (x + 9, .inl (dA 0, 480, .inl (arI (fun _ => 0)))), (x + 10, .inl (dA 0, 200, .inl (arI (fun _ => 0)))), (x + 11, .inl (dA 0, 100, .inl (arI (fun _ => 0)))), (x + 12, .inl (dA 0, 1700, .inl (arI (fun _ => 0)))), (x + 13, .inl (dA 0, 5, .inl (arI (fun _ => 0))))] : va_W) A) [.ref x].toArray s 13 5609 A) (F0 m 0 ls []) by rw [hH, hlo] at hgo; exact hgo
  clear hH hlo
  have hq2 : x + 1 ≤ H.size := (hP 0 _ rfl).lt
  have hq3 : ([.int (iI 0), .int (iI 0), .null, .null, .null, .null, .null, .null, .int (iI 0), .int (iI 0), .int (iI 0), .null, .null, .null, .int (iI 0), .null, .int (iI 0), .int (iI 0), .int (iI 0), .null, .int (iI 0), .null, .null] : List Value).length = 23 := rfl
  refine lv_aload_n hx hb dMo_init_0 rfl (lv_at hl 0 rfl) ?_
  refine W.objInit hx hb hown (hts _ wt4_57) (hts _ wt1_26) (hts _ wt1_27) rfl (by rw [hml]; exact hl.1) rfl dMo_init_1 (Nat.le_of_ble_eq_true rfl) (Nat.le_of_ble_eq_true rfl) ?_
  refine W.eq (g2 := F0 m 4 ls []) rfl ?_
  refine lv_aload_n hx hb dMo_init_4 rfl (lv_at hl 0 rfl) ?_
  refine lv_bipush (v := iI 100) hx hb dMo_init_5 (by decide) ?_
  refine mo_s (h := x + 1) (n := 100) (k := 2) (at_ := .int) (ty := .int) (fty := (.array .int)) hx hb hts hown hnm hK hA hP hD hS (by omega) hq2 hq3 (hts _ wt1_99) rfl rfl hty.1 (by decide) (by show 100 * 4 ≤ 536870912; omega) (by show _ ≤ 13; omega) (by show _ ≤ 5609; omega) dMo_init_7 dMo_init_9 (by decide) (hts _ wt4_60) rfl rfl (by decide +kernel) rfl rfl (fun H locs hP hD hS hq2 hq3 => ?_)
  refine lv_aload_n hx hb dMo_init_12 rfl (lv_at hl 0 rfl) ?_
  refine lv_bipush (v := iI 47) hx hb dMo_init_13 (by decide) ?_
  refine mo_s (h := x + 2) (n := 47) (k := 3) (at_ := .boolean) (ty := .boolean) (fty := (.array .boolean)) hx hb hts hown hnm hK hA hP hD hS (by omega) hq2 hq3 (hts _ wt4_128) rfl rfl hty.2.2.1 (by decide) (by show 47 * 1 ≤ 536870912; omega) (by show _ ≤ 13; omega) (by show _ ≤ 5609; omega) dMo_init_15 dMo_init_17 (by decide) (hts _ wt4_61) rfl rfl (by decide +kernel) rfl rfl (fun H locs hP hD hS hq2 hq3 => ?_)
  refine lv_aload_n hx hb dMo_init_20 rfl (lv_at hl 0 rfl) ?_
  refine lv_bipush (v := iI 47) hx hb dMo_init_21 (by decide) ?_
  refine mo_s (h := x + 3) (n := 47) (k := 4) (at_ := .int) (ty := .int) (fty := (.array .int)) hx hb hts hown hnm hK hA hP hD hS (by omega) hq2 hq3 (hts _ wt1_99) rfl rfl hty.1 (by decide) (by show 47 * 4 ≤ 536870912; omega) (by show _ ≤ 13; omega) (by show _ ≤ 5609; omega) dMo_init_23 dMo_init_25 (by decide) (hts _ wt4_62) rfl rfl (by decide +kernel) rfl rfl (fun H locs hP hD hS hq2 hq3 => ?_)
  refine lv_aload_n hx hb dMo_init_28 rfl (lv_at hl 0 rfl) ?_
  refine lv_bipush (v := iI 47) hx hb dMo_init_29 (by decide) ?_
  refine mo_s (h := x + 4) (n := 47) (k := 5) (at_ := .int) (ty := .int) (fty := (.array .int)) hx hb hts hown hnm hK hA hP hD hS (by omega) hq2 hq3 (hts _ wt1_99) rfl rfl hty.1 (by decide) (by show 47 * 4 ≤ 536870912; omega) (by show _ ≤ 13; omega) (by show _ ≤ 5609; omega) dMo_init_31 dMo_init_33 (by decide) (hts _ wt4_63) rfl rfl (by decide +kernel) rfl rfl (fun H locs hP hD hS hq2 hq3 => ?_)
  refine lv_aload_n hx hb dMo_init_36 rfl (lv_at hl 0 rfl) ?_
  refine lv_bipush (v := iI 47) hx hb dMo_init_37 (by decide) ?_
  refine mo_s (h := x + 5) (n := 47) (k := 6) (at_ := .int) (ty := .int) (fty := (.array .int)) hx hb hts hown hnm hK hA hP hD hS (by omega) hq2 hq3 (hts _ wt1_99) rfl rfl hty.1 (by decide) (by show 47 * 4 ≤ 536870912; omega) (by show _ ≤ 13; omega) (by show _ ≤ 5609; omega) dMo_init_39 dMo_init_41 (by decide) (hts _ wt4_64) rfl rfl (by decide +kernel) rfl rfl (fun H locs hP hD hS hq2 hq3 => ?_)
  refine lv_aload_n hx hb dMo_init_44 rfl (lv_at hl 0 rfl) ?_
  refine lv_sipush (v := iI 2820) hx hb dMo_init_45 (by decide) ?_
  refine mo_s (h := x + 6) (n := 2820) (k := 7) (at_ := .int) (ty := .int) (fty := (.array .int)) hx hb hts hown hnm hK hA hP hD hS (by omega) hq2 hq3 (hts _ wt1_99) rfl rfl hty.1 (by decide) (by show 2820 * 4 ≤ 536870912; omega) (by show _ ≤ 13; omega) (by show _ ≤ 5609; omega) dMo_init_48 dMo_init_50 (by decide) (hts _ wt4_65) rfl rfl (by decide +kernel) rfl rfl (fun H locs hP hD hS hq2 hq3 => ?_)
  refine lv_aload_n hx hb dMo_init_53 rfl (lv_at hl 0 rfl) ?_
  refine lv_bipush (v := iI 8) hx hb dMo_init_54 (by decide) ?_
  refine mo_s (h := x + 7) (n := 8) (k := 11) (at_ := .int) (ty := .int) (fty := (.array .int)) hx hb hts hown hnm hK hA hP hD hS (by omega) hq2 hq3 (hts _ wt1_99) rfl rfl hty.1 (by decide) (by show 8 * 4 ≤ 536870912; omega) (by show _ ≤ 13; omega) (by show _ ≤ 5609; omega) dMo_init_56 dMo_init_58 (by decide) (hts _ wt4_69) rfl rfl (by decide +kernel) rfl rfl (fun H locs hP hD hS hq2 hq3 => ?_)
  refine lv_aload_n hx hb dMo_init_61 rfl (lv_at hl 0 rfl) ?_
  refine lv_bipush (v := iI 8) hx hb dMo_init_62 (by decide) ?_
  refine mo_s (h := x + 8) (n := 8) (k := 12) (at_ := .int) (ty := .int) (fty := (.array .int)) hx hb hts hown hnm hK hA hP hD hS (by omega) hq2 hq3 (hts _ wt1_99) rfl rfl hty.1 (by decide) (by show 8 * 4 ≤ 536870912; omega) (by show _ ≤ 13; omega) (by show _ ≤ 5609; omega) dMo_init_64 dMo_init_66 (by decide) (hts _ wt4_70) rfl rfl (by decide +kernel) rfl rfl (fun H locs hP hD hS hq2 hq3 => ?_)
  refine lv_aload_n hx hb dMo_init_69 rfl (lv_at hl 0 rfl) ?_
  refine lv_sipush (v := iI 480) hx hb dMo_init_70 (by decide) ?_
  refine mo_s (h := x + 9) (n := 480) (k := 13) (at_ := .int) (ty := .int) (fty := (.array .int)) hx hb hts hown hnm hK hA hP hD hS (by omega) hq2 hq3 (hts _ wt1_99) rfl rfl hty.1 (by decide) (by show 480 * 4 ≤ 536870912; omega) (by show _ ≤ 13; omega) (by show _ ≤ 5609; omega) dMo_init_73 dMo_init_75 (by decide) (hts _ wt4_71) rfl rfl (by decide +kernel) rfl rfl (fun H locs hP hD hS hq2 hq3 => ?_)
  refine lv_aload_n hx hb dMo_init_78 rfl (lv_at hl 0 rfl) ?_
  refine lv_sipush (v := iI 200) hx hb dMo_init_79 (by decide) ?_
  refine mo_s (h := x + 10) (n := 200) (k := 15) (at_ := .int) (ty := .int) (fty := (.array .int)) hx hb hts hown hnm hK hA hP hD hS (by omega) hq2 hq3 (hts _ wt1_99) rfl rfl hty.1 (by decide) (by show 200 * 4 ≤ 536870912; omega) (by show _ ≤ 13; omega) (by show _ ≤ 5609; omega) dMo_init_82 dMo_init_84 (by decide) (hts _ wt4_73) rfl rfl (by decide +kernel) rfl rfl (fun H locs hP hD hS hq2 hq3 => ?_)
  refine lv_aload_n hx hb dMo_init_87 rfl (lv_at hl 0 rfl) ?_
  refine lv_bipush (v := iI 100) hx hb dMo_init_88 (by decide) ?_
  refine mo_s (h := x + 11) (n := 100) (k := 19) (at_ := .int) (ty := .int) (fty := (.array .int)) hx hb hts hown hnm hK hA hP hD hS (by omega) hq2 hq3 (hts _ wt1_99) rfl rfl hty.1 (by decide) (by show 100 * 4 ≤ 536870912; omega) (by show _ ≤ 13; omega) (by show _ ≤ 5609; omega) dMo_init_90 dMo_init_92 (by decide) (hts _ wt4_77) rfl rfl (by decide +kernel) rfl rfl (fun H locs hP hD hS hq2 hq3 => ?_)
  refine lv_aload_n hx hb dMo_init_95 rfl (lv_at hl 0 rfl) ?_
  refine lv_sipush (v := iI 1700) hx hb dMo_init_96 (by decide) ?_
  refine mo_s (h := x + 12) (n := 1700) (k := 21) (at_ := .int) (ty := .int) (fty := (.array .int)) hx hb hts hown hnm hK hA hP hD hS (by omega) hq2 hq3 (hts _ wt1_99) rfl rfl hty.1 (by decide) (by show 1700 * 4 ≤ 536870912; omega) (by show _ ≤ 13; omega) (by show _ ≤ 5609; omega) dMo_init_99 dMo_init_101 (by decide) (hts _ wt4_79) rfl rfl (by decide +kernel) rfl rfl (fun H locs hP hD hS hq2 hq3 => ?_)
  refine lv_aload_n hx hb dMo_init_104 rfl (lv_at hl 0 rfl) ?_
  refine lv_iconst (v := iI 5) hx hb dMo_init_105 rfl ?_
  refine mo_s (h := x + 13) (n := 5) (k := 22) (at_ := .int) (ty := .int) (fty := (.array .int)) hx hb hts hown hnm hK hA hP hD hS (by omega) hq2 hq3 (hts _ wt1_99) rfl rfl hty.1 (by decide) (by show 5 * 4 ≤ 536870912; omega) (by show _ ≤ 13; omega) (by show _ ≤ 5609; omega) dMo_init_106 dMo_init_108 (by decide) (hts _ wt4_80) rfl rfl (by decide +kernel) rfl rfl (fun H locs hP hD hS hq2 hq3 => ?_)
  have hP : va_P (dC, dI) vwCl ([(x, .inr (7, [.int (iI 0), .int (iI 0), .ref (x + 1), .ref (x + 2), .ref (x + 3), .ref (x + 4), .ref (x + 5), .ref (x + 6), .int (iI 0), .int (iI 0), .int (iI 0), .ref (x + 7), .ref (x + 8), .ref (x + 9), .int (iI 0), .ref (x + 10), .int (iI 0), .int (iI 0), .int (iI 0), .ref (x + 11), .int (iI 0), .ref (x + 12), .ref (x + 13)])), (x + 1, .inl (dA 0, 100, .inl (arI (fun _ => 0)))), (x + 2, .inl (dA 2, 47, .inl (arI (fun _ => 0)))), (x + 3, .inl (dA 0, 47, .inl (arI (fun _ => 0)))), (x + 4, .inl (dA 0, 47, .inl (arI (fun _ => 0)))), (x + 5, .inl (dA 0, 47, .inl (arI (fun _ => 0)))), (x + 6, .inl (dA 0, 2820, .inl (arI (fun _ => 0)))), (x + 7, .inl (dA 0, 8, .inl (arI (fun _ => 0)))), (x + 8, .inl (dA 0, 8, .inl (arI (fun _ => 0)))), (x + 9, .inl (dA 0, 480, .inl (arI (fun _ => 0)))), (x + 10, .inl (dA 0, 200, .inl (arI (fun _ => 0)))), (x + 11, .inl (dA 0, 100, .inl (arI (fun _ => 0)))), (x + 12, .inl (dA 0, 1700, .inl (arI (fun _ => 0)))), (x + 13, .inl (dA 0, 5, .inl (arI (fun _ => 0))))] : va_W) H := hP
  have hD : va_D A ([(x, .inr (7, [.int (iI 0), .int (iI 0), .ref (x + 1), .ref (x + 2), .ref (x + 3), .ref (x + 4), .ref (x + 5), .ref (x + 6), .int (iI 0), .int (iI 0), .int (iI 0), .ref (x + 7), .ref (x + 8), .ref (x + 9), .int (iI 0), .ref (x + 10), .int (iI 0), .int (iI 0), .int (iI 0), .ref (x + 11), .int (iI 0), .ref (x + 12), .ref (x + 13)])), (x + 1, .inl (dA 0, 100, .inl (arI (fun _ => 0)))), (x + 2, .inl (dA 2, 47, .inl (arI (fun _ => 0)))), (x + 3, .inl (dA 0, 47, .inl (arI (fun _ => 0)))), (x + 4, .inl (dA 0, 47, .inl (arI (fun _ => 0)))), (x + 5, .inl (dA 0, 47, .inl (arI (fun _ => 0)))), (x + 6, .inl (dA 0, 2820, .inl (arI (fun _ => 0)))), (x + 7, .inl (dA 0, 8, .inl (arI (fun _ => 0)))), (x + 8, .inl (dA 0, 8, .inl (arI (fun _ => 0)))), (x + 9, .inl (dA 0, 480, .inl (arI (fun _ => 0)))), (x + 10, .inl (dA 0, 200, .inl (arI (fun _ => 0)))), (x + 11, .inl (dA 0, 100, .inl (arI (fun _ => 0)))), (x + 12, .inl (dA 0, 1700, .inl (arI (fun _ => 0)))), (x + 13, .inl (dA 0, 5, .inl (arI (fun _ => 0))))] : va_W) := hD
  exact W_cs (by omega) (by omega) (rt_v hx hb hr hlocks hK hS dMo_init_111 () hP hD trivial)
