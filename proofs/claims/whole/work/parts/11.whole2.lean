theorem dMa_floorMod_0 : decode prog_13_method_52_code 0 = .ok (.lload_n 0, 1) := by decide +kernel
theorem dMa_floorMod_1 : decode prog_13_method_52_code 1 = .ok (.lload_n 2, 1) := by decide +kernel
theorem dMa_floorMod_2 : decode prog_13_method_52_code 2 = .ok (.lrem, 1) := by decide +kernel
theorem dMa_floorMod_3 : decode prog_13_method_52_code 3 = .ok (.lstore 4, 2) := by decide +kernel
theorem dMa_floorMod_5 : decode prog_13_method_52_code 5 = .ok (.lload_n 0, 1) := by decide +kernel
theorem dMa_floorMod_6 : decode prog_13_method_52_code 6 = .ok (.lload_n 2, 1) := by decide +kernel
theorem dMa_floorMod_7 : decode prog_13_method_52_code 7 = .ok (.lxor, 1) := by decide +kernel
theorem dMa_floorMod_8 : decode prog_13_method_52_code 8 = .ok (.lconst 0, 1) := by decide +kernel
theorem dMa_floorMod_9 : decode prog_13_method_52_code 9 = .ok (.lcmp, 1) := by decide +kernel
theorem dMa_floorMod_10 : decode prog_13_method_52_code 10 = .ok (.ifCond .ge 15, 3) := by decide +kernel
theorem dMa_floorMod_13 : decode prog_13_method_52_code 13 = .ok (.lload 4, 2) := by decide +kernel
theorem dMa_floorMod_15 : decode prog_13_method_52_code 15 = .ok (.lconst 0, 1) := by decide +kernel
theorem dMa_floorMod_16 : decode prog_13_method_52_code 16 = .ok (.lcmp, 1) := by decide +kernel
theorem dMa_floorMod_17 : decode prog_13_method_52_code 17 = .ok (.ifCond .eq 8, 3) := by decide +kernel
theorem dMa_floorMod_20 : decode prog_13_method_52_code 20 = .ok (.lload 4, 2) := by decide +kernel
theorem dMa_floorMod_22 : decode prog_13_method_52_code 22 = .ok (.lload_n 2, 1) := by decide +kernel
theorem dMa_floorMod_23 : decode prog_13_method_52_code 23 = .ok (.ladd, 1) := by decide +kernel
theorem dMa_floorMod_24 : decode prog_13_method_52_code 24 = .ok (.lreturn, 1) := by decide +kernel
theorem dMa_floorMod_25 : decode prog_13_method_52_code 25 = .ok (.lload 4, 2) := by decide +kernel
theorem dMa_floorMod_27 : decode prog_13_method_52_code 27 = .ok (.lreturn, 1) := by decide +kernel
abbrev qMa_floorMod (dC : Nat → ClassId) (dI : Nat → Nat → Nat) (dA : Nat → ClassId) (x : Int) (y : Int) (A : Nat → Prop) : Array Value → State → Outcome → State → Prop := QL (dC, dI) vwCl (tyA dA) (fun (r : Int) (v_ : Unit) => r = x % y) (fun (v_ : Unit) => ([] : va_W)) A
abbrev rmMa_floorMod : Room := { frames := 0, cells := 0, slots := 0, locals := 0 }
set_option maxRecDepth 100000 in
set_option maxHeartbeats 1000000 in
theorem cMa_floorMod (l : Launch) (dC : Nat → ClassId) (dI : Nat → Nat → Nat) (dA : Nat → ClassId) (x : Int) (y : Int) (hr1 : r64 x) (hy : 0 < y) (hr2 : r64 y) (sz : Nat) : Met l yMa_floorMod wsMa_floorMod rmMa_floorMod (PC (dC, dI) vwCl (tyA dA) XN [.long (iL x), .long (iL y)] (([] : va_W)) sz) (qMa_floorMod dC dI dA x y (va_A (([] : va_W)) sz)) 0 0 (va_A (([] : va_W)) sz) := by
  refine met_ofF (cc := prog_13_method_52_code) (maxL := 6) (ret := (some .long)) (Qc := qMa_floorMod dC dI dA x y) XN_ok (by decide +kernel) rfl (Nat.le_of_ble_eq_true rfl) ?_
  intro p e s m below meth c ls A hx hb hr hml hown hts hlocks hnm hK hP hD hA hX hS hl
  have hl : lv_has ls 6 [(0, .long (iL x)), (2, .long (iL y))] := hl
  have hown : s.vm.findClass "java/lang/Math" = some m.cls := hown
  obtain ⟨H, hH⟩ : ∃ H : Heap, H = s.heap := ⟨_, rfl⟩
  obtain ⟨locs, hlo⟩ : ∃ L : List Loc, L = [] := ⟨_, rfl⟩
  have hP : va_P (dC, dI) vwCl (([] : va_W)) H := hH ▸ hP
  have hS : va_S A s.heap H locs := by rw [hH, hlo]; exact hS
  suffices hgo : W p l e rmMa_floorMod s m [.long (iL x), .long (iL y)].toArray below meth c H locs 0 0 (MQ below (qMa_floorMod dC dI dA x y A) [.long (iL x), .long (iL y)].toArray s 0 0 A) (F0 m 0 ls []) by rw [hH, hlo] at hgo; exact hgo
  clear hH hlo
  refine lv_lload_n hx hb dMa_floorMod_0 rfl (lv_at hl 0 rfl) ?_
  refine lv_lload_n hx hb dMa_floorMod_1 rfl (lv_at hl 1 rfl) ?_
  refine iv_lremT hx hb dMa_floorMod_2 ⟨by omega, by omega⟩ (by omega) ⟨by omega, by omega⟩ ?_
  refine lv_lstore (lv' := [(4, .long (iL (Int.tmod x y))), (0, .long (iL x)), (2, .long (iL y))]) hx hb dMa_floorMod_3 hl (by decide) rfl (fun ls hl => ?_)
  have hb1 := Int.tmod_eq_emod (a := x) (b := y)
  have hb2 := Int.emod_nonneg x (show y ≠ 0 by omega)
  have hb3 := Int.emod_lt_of_pos x hy
  have hb4 : -y < x.tmod y ∧ x.tmod y < y := tmod_bd hy
  refine lv_lload_n hx hb dMa_floorMod_5 rfl (lv_at hl 1 rfl) ?_
  refine lv_lload_n hx hb dMa_floorMod_6 rfl (lv_at hl 2 rfl) ?_
  refine iv_lxor_ge (tgt := 25) hx hb dMa_floorMod_7 dMa_floorMod_8 dMa_floorMod_9 dMa_floorMod_10 (by decide) ⟨by omega, by omega⟩ ⟨by omega, by omega⟩ (by omega) (fun hc10 => ?_) (fun hc10 => ?_)
  · refine lv_lload hx hb dMa_floorMod_25 (lv_at hl 0 rfl) ?_
    exact rt_l hx hb hr hlocks hK hS dMa_floorMod_27 () hP hD (show (Int.tmod x y) = x % y from by first | (exact Int.tmod_eq_emod_of_nonneg (by omega)) | (exact fm_1 (by omega) hy (by omega)) | exact fm_2 (by omega) hy (by omega))
  · refine lv_lload hx hb dMa_floorMod_13 (lv_at hl 0 rfl) ?_
    refine lv_lconst (v := iL 0) hx hb dMa_floorMod_15 rfl ?_
    refine iv_lcmp_eq (tgt := 25) hx hb dMa_floorMod_16 dMa_floorMod_17 (by decide) ⟨by omega, by omega⟩ ⟨by decide, by decide⟩ (fun hc17 => ?_) (fun hc17 => ?_)
    · refine lv_lload hx hb dMa_floorMod_25 (lv_at hl 0 rfl) ?_
      exact rt_l hx hb hr hlocks hK hS dMa_floorMod_27 () hP hD (show (Int.tmod x y) = x % y from by first | (exact Int.tmod_eq_emod_of_nonneg (by omega)) | (exact fm_1 (by omega) hy (by omega)) | exact fm_2 (by omega) hy (by omega))
    · refine lv_lload hx hb dMa_floorMod_20 (lv_at hl 0 rfl) ?_
      refine lv_lload_n hx hb dMa_floorMod_22 rfl (lv_at hl 2 rfl) ?_
      refine iv_ladd hx hb dMa_floorMod_23 ?_
      exact rt_l hx hb hr hlocks hK hS dMa_floorMod_24 () hP hD (show ((Int.tmod x y) + y) = x % y from by first | (exact Int.tmod_eq_emod_of_nonneg (by omega)) | (exact fm_1 (by omega) hy (by omega)) | exact fm_2 (by omega) hy (by omega))

theorem dMa_floorDiv_0 : decode prog_13_method_49_code 0 = .ok (.lload_n 0, 1) := by decide +kernel
theorem dMa_floorDiv_1 : decode prog_13_method_49_code 1 = .ok (.lload_n 2, 1) := by decide +kernel
theorem dMa_floorDiv_2 : decode prog_13_method_49_code 2 = .ok (.ldiv, 1) := by decide +kernel
theorem dMa_floorDiv_3 : decode prog_13_method_49_code 3 = .ok (.lstore 4, 2) := by decide +kernel
theorem dMa_floorDiv_5 : decode prog_13_method_49_code 5 = .ok (.lload_n 0, 1) := by decide +kernel
theorem dMa_floorDiv_6 : decode prog_13_method_49_code 6 = .ok (.lload_n 2, 1) := by decide +kernel
theorem dMa_floorDiv_7 : decode prog_13_method_49_code 7 = .ok (.lxor, 1) := by decide +kernel
theorem dMa_floorDiv_8 : decode prog_13_method_49_code 8 = .ok (.lconst 0, 1) := by decide +kernel
theorem dMa_floorDiv_9 : decode prog_13_method_49_code 9 = .ok (.lcmp, 1) := by decide +kernel
theorem dMa_floorDiv_10 : decode prog_13_method_49_code 10 = .ok (.ifCond .ge 17, 3) := by decide +kernel
theorem dMa_floorDiv_13 : decode prog_13_method_49_code 13 = .ok (.lload 4, 2) := by decide +kernel
theorem dMa_floorDiv_15 : decode prog_13_method_49_code 15 = .ok (.lload_n 2, 1) := by decide +kernel
theorem dMa_floorDiv_16 : decode prog_13_method_49_code 16 = .ok (.lmul, 1) := by decide +kernel
theorem dMa_floorDiv_17 : decode prog_13_method_49_code 17 = .ok (.lload_n 0, 1) := by decide +kernel
theorem dMa_floorDiv_18 : decode prog_13_method_49_code 18 = .ok (.lcmp, 1) := by decide +kernel
theorem dMa_floorDiv_19 : decode prog_13_method_49_code 19 = .ok (.ifCond .eq 8, 3) := by decide +kernel
theorem dMa_floorDiv_22 : decode prog_13_method_49_code 22 = .ok (.lload 4, 2) := by decide +kernel
theorem dMa_floorDiv_24 : decode prog_13_method_49_code 24 = .ok (.lconst 1, 1) := by decide +kernel
theorem dMa_floorDiv_25 : decode prog_13_method_49_code 25 = .ok (.lsub, 1) := by decide +kernel
theorem dMa_floorDiv_26 : decode prog_13_method_49_code 26 = .ok (.lreturn, 1) := by decide +kernel
theorem dMa_floorDiv_27 : decode prog_13_method_49_code 27 = .ok (.lload 4, 2) := by decide +kernel
theorem dMa_floorDiv_29 : decode prog_13_method_49_code 29 = .ok (.lreturn, 1) := by decide +kernel
abbrev qMa_floorDiv (dC : Nat → ClassId) (dI : Nat → Nat → Nat) (dA : Nat → ClassId) (x : Int) (y : Int) (A : Nat → Prop) : Array Value → State → Outcome → State → Prop := QL (dC, dI) vwCl (tyA dA) (fun (r : Int) (v_ : Unit) => r = x / y) (fun (v_ : Unit) => ([] : va_W)) A
abbrev rmMa_floorDiv : Room := { frames := 0, cells := 0, slots := 0, locals := 0 }
set_option maxRecDepth 100000 in
set_option maxHeartbeats 1000000 in
theorem cMa_floorDiv (l : Launch) (dC : Nat → ClassId) (dI : Nat → Nat → Nat) (dA : Nat → ClassId) (x : Int) (y : Int) (hr1 : r64 x) (hy : 0 < y) (hr2 : r64 y) (sz : Nat) : Met l yMa_floorDiv wsMa_floorDiv rmMa_floorDiv (PC (dC, dI) vwCl (tyA dA) XN [.long (iL x), .long (iL y)] (([] : va_W)) sz) (qMa_floorDiv dC dI dA x y (va_A (([] : va_W)) sz)) 0 0 (va_A (([] : va_W)) sz) := by
  refine met_ofF (cc := prog_13_method_49_code) (maxL := 6) (ret := (some .long)) (Qc := qMa_floorDiv dC dI dA x y) XN_ok (by decide +kernel) rfl (Nat.le_of_ble_eq_true rfl) ?_
  intro p e s m below meth c ls A hx hb hr hml hown hts hlocks hnm hK hP hD hA hX hS hl
  have hl : lv_has ls 6 [(0, .long (iL x)), (2, .long (iL y))] := hl
  have hown : s.vm.findClass "java/lang/Math" = some m.cls := hown
  obtain ⟨H, hH⟩ : ∃ H : Heap, H = s.heap := ⟨_, rfl⟩
  obtain ⟨locs, hlo⟩ : ∃ L : List Loc, L = [] := ⟨_, rfl⟩
  have hP : va_P (dC, dI) vwCl (([] : va_W)) H := hH ▸ hP
  have hS : va_S A s.heap H locs := by rw [hH, hlo]; exact hS
  suffices hgo : W p l e rmMa_floorDiv s m [.long (iL x), .long (iL y)].toArray below meth c H locs 0 0 (MQ below (qMa_floorDiv dC dI dA x y A) [.long (iL x), .long (iL y)].toArray s 0 0 A) (F0 m 0 ls []) by rw [hH, hlo] at hgo; exact hgo
  clear hH hlo
  refine lv_lload_n hx hb dMa_floorDiv_0 rfl (lv_at hl 0 rfl) ?_
  refine lv_lload_n hx hb dMa_floorDiv_1 rfl (lv_at hl 1 rfl) ?_
  refine iv_ldivT hx hb dMa_floorDiv_2 ⟨by omega, by omega⟩ (by omega) ⟨by omega, by omega⟩ ?_
  refine lv_lstore (lv' := [(4, .long (iL (Int.tdiv x y))), (0, .long (iL x)), (2, .long (iL y))]) hx hb dMa_floorDiv_3 hl (by decide) rfl (fun ls hl => ?_)
  refine lv_lload_n hx hb dMa_floorDiv_5 rfl (lv_at hl 1 rfl) ?_
  refine lv_lload_n hx hb dMa_floorDiv_6 rfl (lv_at hl 2 rfl) ?_
  refine iv_lxor_ge (tgt := 27) hx hb dMa_floorDiv_7 dMa_floorDiv_8 dMa_floorDiv_9 dMa_floorDiv_10 (by decide) ⟨by omega, by omega⟩ ⟨by omega, by omega⟩ (by omega) (fun hc10 => ?_) (fun hc10 => ?_)
  · refine lv_lload hx hb dMa_floorDiv_27 (lv_at hl 0 rfl) ?_
    exact rt_l hx hb hr hlocks hK hS dMa_floorDiv_29 () hP hD (show (Int.tdiv x y) = x / y from by first | (exact Int.tdiv_eq_ediv_of_nonneg (by omega)) | (exact fd_1 (by omega) hy (by omega)) | exact fd_2 (by omega) hy (by omega))
  · refine lv_lload hx hb dMa_floorDiv_13 (lv_at hl 0 rfl) ?_
    refine lv_lload_n hx hb dMa_floorDiv_15 rfl (lv_at hl 2 rfl) ?_
    refine iv_lmul hx hb dMa_floorDiv_16 ?_
    have hb4 : x.tdiv y * y = x - x.tmod y := by have := Int.mul_tdiv_add_tmod x y; rw [Int.mul_comm]; omega
    have hb5 : -y < x.tmod y ∧ x.tmod y < y := tmod_bd hy
    have hb6 : x.tmod y ≤ 0 := tmod_np hy (by omega)
    refine lv_lload_n hx hb dMa_floorDiv_17 rfl (lv_at hl 1 rfl) ?_
    refine iv_lcmp_eq (tgt := 27) hx hb dMa_floorDiv_18 dMa_floorDiv_19 (by decide) ⟨by omega, by omega⟩ ⟨by omega, by omega⟩ (fun hc19 => ?_) (fun hc19 => ?_)
    · refine lv_lload hx hb dMa_floorDiv_27 (lv_at hl 0 rfl) ?_
      exact rt_l hx hb hr hlocks hK hS dMa_floorDiv_29 () hP hD (show (Int.tdiv x y) = x / y from by first | (exact Int.tdiv_eq_ediv_of_nonneg (by omega)) | (exact fd_1 (by omega) hy (by omega)) | exact fd_2 (by omega) hy (by omega))
    · refine lv_lload hx hb dMa_floorDiv_22 (lv_at hl 0 rfl) ?_
      refine lv_lconst (v := iL 1) hx hb dMa_floorDiv_24 rfl ?_
      refine iv_lsub hx hb dMa_floorDiv_25 ?_
      exact rt_l hx hb hr hlocks hK hS dMa_floorDiv_26 () hP hD (show ((Int.tdiv x y) - 1) = x / y from by first | (exact Int.tdiv_eq_ediv_of_nonneg (by omega)) | (exact fd_1 (by omega) hy (by omega)) | exact fd_2 (by omega) hy (by omega))

theorem dWh_add_0 : decode prog_7_method_14_code 0 = .ok (.aload_n 0, 1) := by decide +kernel
theorem dWh_add_1 : decode prog_7_method_14_code 1 = .ok (.getfield 13, 3) := by decide +kernel
theorem dWh_add_4 : decode prog_7_method_14_code 4 = .ok (.aload_n 1, 1) := by decide +kernel
theorem dWh_add_5 : decode prog_7_method_14_code 5 = .ok (.getfield 13, 3) := by decide +kernel
theorem dWh_add_8 : decode prog_7_method_14_code 8 = .ok (.invokestatic 51, 3) := by decide +kernel
theorem dWh_add_11 : decode prog_7_method_14_code 11 = .ok (.istore_n 2, 1) := by decide +kernel
theorem dWh_add_12 : decode prog_7_method_14_code 12 = .ok (.iconst 0, 1) := by decide +kernel
theorem dWh_add_13 : decode prog_7_method_14_code 13 = .ok (.istore_n 3, 1) := by decide +kernel
theorem dWh_add_14 : decode prog_7_method_14_code 14 = .ok (.iconst 0, 1) := by decide +kernel
theorem dWh_add_15 : decode prog_7_method_14_code 15 = .ok (.istore 4, 2) := by decide +kernel
theorem dWh_add_17 : decode prog_7_method_14_code 17 = .ok (.iload 4, 2) := by decide +kernel
theorem dWh_add_19 : decode prog_7_method_14_code 19 = .ok (.iload_n 2, 1) := by decide +kernel
theorem dWh_add_20 : decode prog_7_method_14_code 20 = .ok (.if_icmp .ge 89, 3) := by decide +kernel
theorem dWh_add_23 : decode prog_7_method_14_code 23 = .ok (.iload 4, 2) := by decide +kernel
theorem dWh_add_25 : decode prog_7_method_14_code 25 = .ok (.aload_n 0, 1) := by decide +kernel
theorem dWh_add_26 : decode prog_7_method_14_code 26 = .ok (.getfield 13, 3) := by decide +kernel
theorem dWh_add_29 : decode prog_7_method_14_code 29 = .ok (.if_icmp .ge 13, 3) := by decide +kernel
theorem dWh_add_32 : decode prog_7_method_14_code 32 = .ok (.aload_n 0, 1) := by decide +kernel
theorem dWh_add_33 : decode prog_7_method_14_code 33 = .ok (.getfield 9, 3) := by decide +kernel
theorem dWh_add_36 : decode prog_7_method_14_code 36 = .ok (.iload 4, 2) := by decide +kernel
theorem dWh_add_38 : decode prog_7_method_14_code 38 = .ok (.iaload, 1) := by decide +kernel
theorem dWh_add_39 : decode prog_7_method_14_code 39 = .ok (.goto 4, 3) := by decide +kernel
theorem dWh_add_42 : decode prog_7_method_14_code 42 = .ok (.iconst 0, 1) := by decide +kernel
theorem dWh_add_43 : decode prog_7_method_14_code 43 = .ok (.istore 5, 2) := by decide +kernel
theorem dWh_add_45 : decode prog_7_method_14_code 45 = .ok (.iload 4, 2) := by decide +kernel
theorem dWh_add_47 : decode prog_7_method_14_code 47 = .ok (.aload_n 1, 1) := by decide +kernel
theorem dWh_add_48 : decode prog_7_method_14_code 48 = .ok (.getfield 13, 3) := by decide +kernel
theorem dWh_add_51 : decode prog_7_method_14_code 51 = .ok (.if_icmp .ge 13, 3) := by decide +kernel
theorem dWh_add_54 : decode prog_7_method_14_code 54 = .ok (.aload_n 1, 1) := by decide +kernel
theorem dWh_add_55 : decode prog_7_method_14_code 55 = .ok (.getfield 9, 3) := by decide +kernel
theorem dWh_add_58 : decode prog_7_method_14_code 58 = .ok (.iload 4, 2) := by decide +kernel
theorem dWh_add_60 : decode prog_7_method_14_code 60 = .ok (.iaload, 1) := by decide +kernel
theorem dWh_add_61 : decode prog_7_method_14_code 61 = .ok (.goto 4, 3) := by decide +kernel
theorem dWh_add_64 : decode prog_7_method_14_code 64 = .ok (.iconst 0, 1) := by decide +kernel
theorem dWh_add_65 : decode prog_7_method_14_code 65 = .ok (.istore 6, 2) := by decide +kernel
theorem dWh_add_67 : decode prog_7_method_14_code 67 = .ok (.iload 5, 2) := by decide +kernel
theorem dWh_add_69 : decode prog_7_method_14_code 69 = .ok (.iload 6, 2) := by decide +kernel
theorem dWh_add_71 : decode prog_7_method_14_code 71 = .ok (.iadd, 1) := by decide +kernel
theorem dWh_add_72 : decode prog_7_method_14_code 72 = .ok (.iload_n 3, 1) := by decide +kernel
theorem dWh_add_73 : decode prog_7_method_14_code 73 = .ok (.iadd, 1) := by decide +kernel
theorem dWh_add_74 : decode prog_7_method_14_code 74 = .ok (.istore 7, 2) := by decide +kernel
theorem dWh_add_76 : decode prog_7_method_14_code 76 = .ok (.iload 7, 2) := by decide +kernel
theorem dWh_add_78 : decode prog_7_method_14_code 78 = .ok (.ldc 54, 2) := by decide +kernel
theorem dWh_add_80 : decode prog_7_method_14_code 80 = .ok (.if_icmp .lt 7, 3) := by decide +kernel
theorem dWh_add_83 : decode prog_7_method_14_code 83 = .ok (.iconst 1, 1) := by decide +kernel
theorem dWh_add_84 : decode prog_7_method_14_code 84 = .ok (.goto 4, 3) := by decide +kernel
theorem dWh_add_87 : decode prog_7_method_14_code 87 = .ok (.iconst 0, 1) := by decide +kernel
theorem dWh_add_88 : decode prog_7_method_14_code 88 = .ok (.istore_n 3, 1) := by decide +kernel
theorem dWh_add_89 : decode prog_7_method_14_code 89 = .ok (.aload_n 0, 1) := by decide +kernel
theorem dWh_add_90 : decode prog_7_method_14_code 90 = .ok (.getfield 9, 3) := by decide +kernel
theorem dWh_add_93 : decode prog_7_method_14_code 93 = .ok (.iload 4, 2) := by decide +kernel
theorem dWh_add_95 : decode prog_7_method_14_code 95 = .ok (.iload 7, 2) := by decide +kernel
theorem dWh_add_97 : decode prog_7_method_14_code 97 = .ok (.iload_n 3, 1) := by decide +kernel
theorem dWh_add_98 : decode prog_7_method_14_code 98 = .ok (.ldc 54, 2) := by decide +kernel
theorem dWh_add_100 : decode prog_7_method_14_code 100 = .ok (.imul, 1) := by decide +kernel
theorem dWh_add_101 : decode prog_7_method_14_code 101 = .ok (.isub, 1) := by decide +kernel
theorem dWh_add_102 : decode prog_7_method_14_code 102 = .ok (.iastore, 1) := by decide +kernel
theorem dWh_add_103 : decode prog_7_method_14_code 103 = .ok (.iinc 4 1, 3) := by decide +kernel
theorem dWh_add_106 : decode prog_7_method_14_code 106 = .ok (.goto (-89), 3) := by decide +kernel
theorem dWh_add_109 : decode prog_7_method_14_code 109 = .ok (.aload_n 0, 1) := by decide +kernel
theorem dWh_add_110 : decode prog_7_method_14_code 110 = .ok (.iload_n 2, 1) := by decide +kernel
theorem dWh_add_111 : decode prog_7_method_14_code 111 = .ok (.putfield 13, 3) := by decide +kernel
theorem dWh_add_114 : decode prog_7_method_14_code 114 = .ok (.iload_n 3, 1) := by decide +kernel
theorem dWh_add_115 : decode prog_7_method_14_code 115 = .ok (.ifCond .le 32, 3) := by decide +kernel
theorem dWh_add_118 : decode prog_7_method_14_code 118 = .ok (.aload_n 0, 1) := by decide +kernel
theorem dWh_add_119 : decode prog_7_method_14_code 119 = .ok (.getfield 13, 3) := by decide +kernel
theorem dWh_add_122 : decode prog_7_method_14_code 122 = .ok (.bipush 32, 2) := by decide +kernel
theorem dWh_add_124 : decode prog_7_method_14_code 124 = .ok (.if_icmp .ge 23, 3) := by decide +kernel
theorem dWh_add_127 : decode prog_7_method_14_code 127 = .ok (.aload_n 0, 1) := by decide +kernel
theorem dWh_add_128 : decode prog_7_method_14_code 128 = .ok (.getfield 9, 3) := by decide +kernel
theorem dWh_add_131 : decode prog_7_method_14_code 131 = .ok (.aload_n 0, 1) := by decide +kernel
theorem dWh_add_132 : decode prog_7_method_14_code 132 = .ok (.getfield 13, 3) := by decide +kernel
theorem dWh_add_135 : decode prog_7_method_14_code 135 = .ok (.iload_n 3, 1) := by decide +kernel
theorem dWh_add_136 : decode prog_7_method_14_code 136 = .ok (.iastore, 1) := by decide +kernel
theorem dWh_add_137 : decode prog_7_method_14_code 137 = .ok (.aload_n 0, 1) := by decide +kernel
theorem dWh_add_138 : decode prog_7_method_14_code 138 = .ok (.dup, 1) := by decide +kernel
theorem dWh_add_139 : decode prog_7_method_14_code 139 = .ok (.getfield 13, 3) := by decide +kernel
theorem dWh_add_142 : decode prog_7_method_14_code 142 = .ok (.iconst 1, 1) := by decide +kernel
theorem dWh_add_143 : decode prog_7_method_14_code 143 = .ok (.iadd, 1) := by decide +kernel
theorem dWh_add_144 : decode prog_7_method_14_code 144 = .ok (.putfield 13, 3) := by decide +kernel
theorem dWh_add_147 : decode prog_7_method_14_code 147 = .ok (.return_, 1) := by decide +kernel
abbrev qWh_add (dC : Nat → ClassId) (dI : Nat → Nat → Nat) (dA : Nat → ClassId) (a : Nat) (g : Nat) (F : Int → Int) (u : Int) (N : Int) (b : Nat) (h : Nat) (G : Int → Int) (v : Int) (M : Int) (A : Nat → Prop) : Array Value → State → Outcome → State → Prop := QV (dC, dI) vwCl (tyA dA) (fun (v_ : (Int → Int) × Int) => WR v_.1 v_.2 (N + M)) (fun (v_ : (Int → Int) × Int) => wWh dA a g v_.1 v_.2 (wWh dA b h G v [])) A
abbrev rmWh_add : Room := { frames := 1, cells := 0, slots := 0, locals := 13 }
set_option maxRecDepth 100000 in
set_option maxHeartbeats 1000000 in
theorem cWh_add (l : Launch) (dC : Nat → ClassId) (dI : Nat → Nat → Nat) (dA : Nat → ClassId) (a : Nat) (g : Nat) (F : Int → Int) (u : Int) (N : Int) (b : Nat) (h : Nat) (G : Int → Int) (v : Int) (M : Int) (hW : WR F u N) (hV : WR G v M) (hbd : N + M < PW 1000000000 32) (sz : Nat) : Met l yWh_add wsWh_add rmWh_add (PC (dC, dI) vwCl (tyA dA) XN [.ref a, .ref b] (wWh dA a g F u (wWh dA b h G v [])) sz) (qWh_add dC dI dA a g F u N b h G v M (va_A (wWh dA a g F u (wWh dA b h G v [])) sz)) 0 0 (va_A (wWh dA a g F u (wWh dA b h G v [])) sz) := by
  refine met_of (cc := prog_7_method_14_code) (maxL := 8) (ret := none) (Qc := qWh_add dC dI dA a g F u N b h G v M) XN_ok (by decide) rfl (Nat.le_of_ble_eq_true rfl) ?_
  intro p e s m below meth c ls A hx hb hr hml hown hts hlocks hnm hK hP hD hA hX hS hl
  have hl : lv_has ls 8 [(0, .ref a), (1, .ref b)] := hl
  have hown : s.vm.findClass "MacroReckoner$Whole" = some m.cls := hown
  obtain ⟨H, hH⟩ : ∃ H : Heap, H = s.heap := ⟨_, rfl⟩
  obtain ⟨locs, hlo⟩ : ∃ L : List Loc, L = [] := ⟨_, rfl⟩
  have hP : va_P (dC, dI) vwCl (wWh dA a g F u (wWh dA b h G v [])) H := hH ▸ hP
  have hS : va_S A s.heap H locs := by rw [hH, hlo]; exact hS
  suffices hgo : W p l e rmWh_add s m [.ref a, .ref b].toArray below meth c H locs 0 0 (MQ below (qWh_add dC dI dA a g F u N b h G v M A) [.ref a, .ref b].toArray s 0 0 A) (F0 m 0 ls []) by rw [hH, hlo] at hgo; exact hgo
  clear hH hlo
  have hu := hW.1
  have hv := hV.1
  refine lv_aload_n hx hb dWh_add_0 rfl (lv_at hl 0 rfl) ?_
  refine va_get (D := (dC, dI)) (ci := 5) (v := .int (iI u)) (C := "MacroReckoner$Whole") (T := TWh) (N := 2) hx hb hts inWh hown hK hP 0 rfl rfl 1 (by decide) (hts _ wt1_93) (fun _ h9 => h9) rfl dWh_add_1 ?_
  refine lv_aload_n hx hb dWh_add_4 rfl (lv_at hl 1 rfl) ?_
  refine va_get (D := (dC, dI)) (ci := 5) (v := .int (iI v)) (C := "MacroReckoner$Whole") (T := TWh) (N := 2) hx hb hts inWh hown hK hP 2 rfl rfl 1 (by decide) (hts _ wt1_93) (fun _ h9 => h9) rfl dWh_add_5 ?_
  refine iv_mmax hx hb (hml.trans hl.1.symm) hown (hts _ wt3_81) (hts _ wt2_178) (hts _ wt1_16) (hts _ wt2_179) (by decide) (Nat.le_of_ble_eq_true rfl) (Nat.zero_le _) (Nat.zero_le _) dWh_add_8 ⟨by omega, by omega⟩ ⟨by omega, by omega⟩ ?_
  refine lv_istore_n (lv' := [(2, .int (iI (max u v))), (0, .ref a), (1, .ref b)]) hx hb dWh_add_11 rfl hl (by decide) rfl (fun ls hl => ?_)
  refine lv_iconst (v := iI 0) hx hb dWh_add_12 rfl ?_
  refine lv_istore_n (lv' := [(3, .int (iI 0)), (2, .int (iI (max u v))), (0, .ref a), (1, .ref b)]) hx hb dWh_add_13 rfl hl (by decide) rfl (fun ls hl => ?_)
  refine lv_iconst (v := iI 0) hx hb dWh_add_14 rfl ?_
  refine lv_istore (lv' := [(4, .int (iI 0)), (3, .int (iI 0)), (2, .int (iI (max u v))), (0, .ref a), (1, .ref b)]) hx hb dWh_add_15 hl (by decide) rfl (fun ls hl => ?_)
  have L17 : ∀ (n : Nat) (F9 : Int → Int) (cy : Int) (i : Int) (H : Heap) (locs : List Loc) (ls : Array Slot), (i ≤ max u v) → (addJ F G u v F9 cy i) → (max u v - i).toNat < n → va_P (dC, dI) vwCl (wWh dA a g F9 u (wWh dA b h G v [])) H → va_D A (wWh dA a g F9 u (wWh dA b h G v [])) → va_S A s.heap H locs → lv_has ls 8 [(4, .int (iI i)), (3, .int (iI cy)), (2, .int (iI (max u v))), (0, .ref a), (1, .ref b)] → W p l e rmWh_add s m [.ref a, .ref b].toArray below meth c H locs 0 0 (MQ below (qWh_add dC dI dA a g F u N b h G v M A) [.ref a, .ref b].toArray s 0 0 A) (F0 m 17 ls []) := by
    intro n
    induction n with
    | zero => intro F9 cy i H locs ls hi hJ hn; omega
    | succ n ih =>
      intro F9 cy i H locs ls hi hJ hn hP hD hS hl
      have hj := hJ.1
      have hj2 := hJ.2.1
      have hj3 := hJ.2.2.1
      have ih17 := ih
      refine lv_iload hx hb dWh_add_17 (lv_at hl 0 rfl) ?_
      refine lv_iload_n hx hb dWh_add_19 rfl (lv_at hl 2 rfl) ?_
      refine iv_icmp_ge (tgt := 109) hx hb dWh_add_20 (by decide) ⟨by omega, by omega⟩ ⟨by omega, by omega⟩ (fun hc20 => ?_) (fun hc20 => ?_)
      · rw [show i = max u v by omega] at hJ
        refine lv_aload_n hx hb dWh_add_109 rfl (lv_at hl 3 rfl) ?_
        refine lv_iload_n hx hb dWh_add_110 rfl (lv_at hl 2 rfl) ?_
        refine va_put (D := (dC, dI)) (ci := 5) (v := .int (iI (max u v))) (ty := .int) (C := "MacroReckoner$Whole") (T := TWh) (N := 2) hx hb hts inWh tyWh tyWh_ok nmWh hown hK hP hD hS 0 rfl rfl 1 (by decide) (hts _ wt1_93) (fun _ h9 => h9) rfl (by decide +kernel) rfl rfl (Nat.le_of_ble_eq_true rfl) dWh_add_111 (fun H locs hP hD hS => ?_)
        have hP : va_P (dC, dI) vwCl (wWh dA a g F9 (max u v) (wWh dA b h G v [])) H := hP
        have hD : va_D A (wWh dA a g F9 (max u v) (wWh dA b h G v [])) := hD
        refine lv_iload_n hx hb dWh_add_114 rfl (lv_at hl 1 rfl) ?_
        refine iv_if_le (tgt := 147) hx hb dWh_add_115 (by decide) ⟨by omega, by omega⟩ (fun hc115 => ?_) (fun hc115 => ?_)
        · exact rt_v hx hb hr hlocks hK hS dWh_add_147 (F9, max u v) hP hD (show WR F9 (max u v) (N + M) from by first | exact add_e0 hW hV hJ (by omega) | exact add_e1 hW hV hJ (by omega) (by omega) | exact absurd (add_e2 hW hV hJ (by omega) hbd) (by omega))
        · refine lv_aload_n hx hb dWh_add_118 rfl (lv_at hl 3 rfl) ?_
          refine va_get (D := (dC, dI)) (ci := 5) (v := .int (iI ((max u v)))) (C := "MacroReckoner$Whole") (T := TWh) (N := 2) hx hb hts inWh hown hK hP 0 rfl rfl 1 (by decide) (hts _ wt1_93) (fun _ h9 => h9) rfl dWh_add_119 ?_
          refine lv_bipush (v := iI 32) hx hb dWh_add_122 (by decide) ?_
          refine iv_icmp_ge (tgt := 147) hx hb dWh_add_124 (by decide) ⟨by omega, by omega⟩ ⟨by decide, by decide⟩ (fun hc124 => ?_) (fun hc124 => ?_)
          · exact rt_v hx hb hr hlocks hK hS dWh_add_147 (F9, max u v) hP hD (show WR F9 (max u v) (N + M) from by first | exact add_e0 hW hV hJ (by omega) | exact add_e1 hW hV hJ (by omega) (by omega) | exact absurd (add_e2 hW hV hJ (by omega) hbd) (by omega))
          · refine lv_aload_n hx hb dWh_add_127 rfl (lv_at hl 3 rfl) ?_
            refine va_get (D := (dC, dI)) (ci := 5) (v := .ref g) (C := "MacroReckoner$Whole") (T := TWh) (N := 2) hx hb hts inWh hown hK hP 0 rfl rfl 0 (by decide) (hts _ wt1_92) (fun _ h9 => h9) rfl dWh_add_128 ?_
            refine lv_aload_n hx hb dWh_add_131 rfl (lv_at hl 3 rfl) ?_
            refine va_get (D := (dC, dI)) (ci := 5) (v := .int (iI ((max u v)))) (C := "MacroReckoner$Whole") (T := TWh) (N := 2) hx hb hts inWh hown hK hP 0 rfl rfl 1 (by decide) (hts _ wt1_93) (fun _ h9 => h9) rfl dWh_add_132 ?_
            refine lv_iload_n hx hb dWh_add_135 rfl (lv_at hl 1 rfl) ?_
            refine iv_iast (v := cy) hx hb hK hP hD hS 1 0 rfl rfl (by decide) dWh_add_136 (by omega) (by omega) (fun H locs hP hD hS => ?_)
            have hP : va_P (dC, dI) vwCl (wWh dA a g (up F9 ((max u v)) cy) (max u v) (wWh dA b h G v [])) H := hP
            have hD : va_D A (wWh dA a g (up F9 ((max u v)) cy) (max u v) (wWh dA b h G v [])) := hD
            refine lv_aload_n hx hb dWh_add_137 rfl (lv_at hl 3 rfl) ?_
            refine lv_dup hx hb dWh_add_138 rfl ?_
            refine va_get (D := (dC, dI)) (ci := 5) (v := .int (iI ((max u v)))) (C := "MacroReckoner$Whole") (T := TWh) (N := 2) hx hb hts inWh hown hK hP 0 rfl rfl 1 (by decide) (hts _ wt1_93) (fun _ h9 => h9) rfl dWh_add_139 ?_
            refine lv_iconst (v := iI 1) hx hb dWh_add_142 rfl ?_
            refine iv_iadd hx hb dWh_add_143 ?_
            refine va_put (D := (dC, dI)) (ci := 5) (v := .int (iI (((max u v)) + 1))) (ty := .int) (C := "MacroReckoner$Whole") (T := TWh) (N := 2) hx hb hts inWh tyWh tyWh_ok nmWh hown hK hP hD hS 0 rfl rfl 1 (by decide) (hts _ wt1_93) (fun _ h9 => h9) rfl (by decide +kernel) rfl rfl (Nat.le_of_ble_eq_true rfl) dWh_add_144 (fun H locs hP hD hS => ?_)
            have hP : va_P (dC, dI) vwCl (wWh dA a g (up F9 ((max u v)) cy) (((max u v)) + 1) (wWh dA b h G v [])) H := hP
            have hD : va_D A (wWh dA a g (up F9 ((max u v)) cy) (((max u v)) + 1) (wWh dA b h G v [])) := hD
            exact rt_v hx hb hr hlocks hK hS dWh_add_147 (up F9 ((max u v)) cy, ((max u v)) + 1) hP hD (show WR (up F9 ((max u v)) cy) (((max u v)) + 1) (N + M) from by first | exact add_e0 hW hV hJ (by omega) | exact add_e1 hW hV hJ (by omega) (by omega) | exact absurd (add_e2 hW hV hJ (by omega) hbd) (by omega))
      · refine lv_iload hx hb dWh_add_23 (lv_at hl 0 rfl) ?_
        refine lv_aload_n hx hb dWh_add_25 rfl (lv_at hl 3 rfl) ?_
        refine va_get (D := (dC, dI)) (ci := 5) (v := .int (iI u)) (C := "MacroReckoner$Whole") (T := TWh) (N := 2) hx hb hts inWh hown hK hP 0 rfl rfl 1 (by decide) (hts _ wt1_93) (fun _ h9 => h9) rfl dWh_add_26 ?_
        refine iv_icmp_ge (tgt := 42) hx hb dWh_add_29 (by decide) ⟨by omega, by omega⟩ ⟨by omega, by omega⟩ (fun hc29 => ?_) (fun hc29 => ?_)
        · refine lv_iconst (v := iI 0) hx hb dWh_add_42 rfl ?_
          refine lv_istore (lv' := [(5, .int (iI 0)), (4, .int (iI i)), (3, .int (iI cy)), (2, .int (iI (max u v))), (0, .ref a), (1, .ref b)]) hx hb dWh_add_43 hl (by decide) rfl (fun ls hl => ?_)
          obtain ⟨hh, e_hh⟩ : ∃ z : Int, z = 0 := ⟨_, rfl⟩
          rw [← e_hh] at hl
          have hhb : hh = ze F u i ∧ 0 ≤ hh ∧ hh < 1000000000 := by rw [e_hh]; first | (rw [add_h hJ hc29]; exact ⟨rfl, ze_bd hW (by omega)⟩) | (rw [ze_out hc29]; omega)
          refine lv_iload hx hb dWh_add_45 (lv_at hl 1 rfl) ?_
          refine lv_aload_n hx hb dWh_add_47 rfl (lv_at hl 5 rfl) ?_
          refine va_get (D := (dC, dI)) (ci := 5) (v := .int (iI v)) (C := "MacroReckoner$Whole") (T := TWh) (N := 2) hx hb hts inWh hown hK hP 2 rfl rfl 1 (by decide) (hts _ wt1_93) (fun _ h9 => h9) rfl dWh_add_48 ?_
          refine iv_icmp_ge (tgt := 64) hx hb dWh_add_51 (by decide) ⟨by omega, by omega⟩ ⟨by omega, by omega⟩ (fun hc51 => ?_) (fun hc51 => ?_)
          · refine lv_iconst (v := iI 0) hx hb dWh_add_64 rfl ?_
            refine lv_istore (lv' := [(6, .int (iI 0)), (5, .int (iI hh)), (4, .int (iI i)), (3, .int (iI cy)), (2, .int (iI (max u v))), (0, .ref a), (1, .ref b)]) hx hb dWh_add_65 hl (by decide) rfl (fun ls hl => ?_)
            obtain ⟨tt, e_tt⟩ : ∃ z : Int, z = 0 := ⟨_, rfl⟩
            rw [← e_tt] at hl
            have htb : tt = ze G v i ∧ 0 ≤ tt ∧ tt < 1000000000 := by rw [e_tt]; first | (rw [ze_in hc51]; exact ⟨rfl, hV.2.1 i (by omega) hc51⟩) | (rw [ze_out hc51]; omega)
            refine lv_iload hx hb dWh_add_67 (lv_at hl 1 rfl) ?_
            refine lv_iload hx hb dWh_add_69 (lv_at hl 0 rfl) ?_
            refine iv_iadd hx hb dWh_add_71 ?_
            refine lv_iload_n hx hb dWh_add_72 rfl (lv_at hl 3 rfl) ?_
            refine iv_iadd hx hb dWh_add_73 ?_
            refine lv_istore (lv' := [(7, .int (iI ((hh + tt) + cy))), (6, .int (iI tt)), (5, .int (iI hh)), (4, .int (iI i)), (3, .int (iI cy)), (2, .int (iI (max u v))), (0, .ref a), (1, .ref b)]) hx hb dWh_add_74 hl (by decide) rfl (fun ls hl => ?_)
            refine lv_iload hx hb dWh_add_76 (lv_at hl 0 rfl) ?_
            refine lv_ldc (v := iI 1000000000) hx hb hown ((by decide : (1000000000 : Int32) = iI 1000000000) ▸ hts _ wt3_82) dWh_add_78 ?_
            refine iv_icmp_lt (tgt := 87) hx hb dWh_add_80 (by decide) ⟨by omega, by omega⟩ ⟨by decide, by decide⟩ (fun hc80 => ?_) (fun hc80 => ?_)
            · refine lv_iconst (v := iI 0) hx hb dWh_add_87 rfl ?_
              refine lv_istore_n (lv' := [(3, .int (iI 0)), (7, .int (iI ((hh + tt) + cy))), (6, .int (iI tt)), (5, .int (iI hh)), (4, .int (iI i)), (2, .int (iI (max u v))), (0, .ref a), (1, .ref b)]) hx hb dWh_add_88 rfl hl (by decide) rfl (fun ls hl => ?_)
              refine lv_aload_n hx hb dWh_add_89 rfl (lv_at hl 6 rfl) ?_
              refine va_get (D := (dC, dI)) (ci := 5) (v := .ref g) (C := "MacroReckoner$Whole") (T := TWh) (N := 2) hx hb hts inWh hown hK hP 0 rfl rfl 0 (by decide) (hts _ wt1_92) (fun _ h9 => h9) rfl dWh_add_90 ?_
              refine lv_iload hx hb dWh_add_93 (lv_at hl 4 rfl) ?_
              refine lv_iload hx hb dWh_add_95 (lv_at hl 1 rfl) ?_
              refine lv_iload_n hx hb dWh_add_97 rfl (lv_at hl 0 rfl) ?_
              refine lv_ldc (v := iI 1000000000) hx hb hown ((by decide : (1000000000 : Int32) = iI 1000000000) ▸ hts _ wt3_82) dWh_add_98 ?_
              refine iv_imul hx hb dWh_add_100 ?_
              refine iv_isub hx hb dWh_add_101 ?_
              refine iv_iast (v := ((hh + tt) + cy) - (0 * 1000000000)) hx hb hK hP hD hS 1 0 rfl rfl (by decide) dWh_add_102 (by omega) (by omega) (fun H locs hP hD hS => ?_)
              have hP : va_P (dC, dI) vwCl (wWh dA a g (up F9 i (((hh + tt) + cy) - (0 * 1000000000))) u (wWh dA b h G v [])) H := hP
              have hD : va_D A (wWh dA a g (up F9 i (((hh + tt) + cy) - (0 * 1000000000))) u (wWh dA b h G v [])) := hD
              refine lv_iinc (k := 4) (lv' := [(4, .int (iI (i + 1))), (3, .int (iI 0)), (7, .int (iI ((hh + tt) + cy))), (6, .int (iI tt)), (5, .int (iI hh)), (2, .int (iI (max u v))), (0, .ref a), (1, .ref b)]) (v := iI (i + 1)) hx hb dWh_add_103 hl rfl (iI_add _ _).symm (by decide) rfl (fun ls hl => ?_)
              refine lv_goto (tgt := 17) hx hb dWh_add_106 (by decide) ?_
              exact ih17 (up F9 i (((hh + tt) + cy) - (0 * 1000000000))) 0 (i + 1) H locs ls (by omega) (by exact add_s hJ hhb.1 htb.1 hhb.2 htb.2 (by omega)) (by omega) hP hD hS (lv_sub hl [0, 1, 5, 6, 7] rfl)
            · refine lv_iconst (v := iI 1) hx hb dWh_add_83 rfl ?_
              refine lv_goto (tgt := 88) hx hb dWh_add_84 (by decide) ?_
              refine lv_istore_n (lv' := [(3, .int (iI 1)), (7, .int (iI ((hh + tt) + cy))), (6, .int (iI tt)), (5, .int (iI hh)), (4, .int (iI i)), (2, .int (iI (max u v))), (0, .ref a), (1, .ref b)]) hx hb dWh_add_88 rfl hl (by decide) rfl (fun ls hl => ?_)
              refine lv_aload_n hx hb dWh_add_89 rfl (lv_at hl 6 rfl) ?_
              refine va_get (D := (dC, dI)) (ci := 5) (v := .ref g) (C := "MacroReckoner$Whole") (T := TWh) (N := 2) hx hb hts inWh hown hK hP 0 rfl rfl 0 (by decide) (hts _ wt1_92) (fun _ h9 => h9) rfl dWh_add_90 ?_
              refine lv_iload hx hb dWh_add_93 (lv_at hl 4 rfl) ?_
              refine lv_iload hx hb dWh_add_95 (lv_at hl 1 rfl) ?_
              refine lv_iload_n hx hb dWh_add_97 rfl (lv_at hl 0 rfl) ?_
              refine lv_ldc (v := iI 1000000000) hx hb hown ((by decide : (1000000000 : Int32) = iI 1000000000) ▸ hts _ wt3_82) dWh_add_98 ?_
              refine iv_imul hx hb dWh_add_100 ?_
              refine iv_isub hx hb dWh_add_101 ?_
              refine iv_iast (v := ((hh + tt) + cy) - (1 * 1000000000)) hx hb hK hP hD hS 1 0 rfl rfl (by decide) dWh_add_102 (by omega) (by omega) (fun H locs hP hD hS => ?_)
              have hP : va_P (dC, dI) vwCl (wWh dA a g (up F9 i (((hh + tt) + cy) - (1 * 1000000000))) u (wWh dA b h G v [])) H := hP
              have hD : va_D A (wWh dA a g (up F9 i (((hh + tt) + cy) - (1 * 1000000000))) u (wWh dA b h G v [])) := hD
              refine lv_iinc (k := 4) (lv' := [(4, .int (iI (i + 1))), (3, .int (iI 1)), (7, .int (iI ((hh + tt) + cy))), (6, .int (iI tt)), (5, .int (iI hh)), (2, .int (iI (max u v))), (0, .ref a), (1, .ref b)]) (v := iI (i + 1)) hx hb dWh_add_103 hl rfl (iI_add _ _).symm (by decide) rfl (fun ls hl => ?_)
              refine lv_goto (tgt := 17) hx hb dWh_add_106 (by decide) ?_
              exact ih17 (up F9 i (((hh + tt) + cy) - (1 * 1000000000))) 1 (i + 1) H locs ls (by omega) (by exact add_s hJ hhb.1 htb.1 hhb.2 htb.2 (by omega)) (by omega) hP hD hS (lv_sub hl [0, 1, 5, 6, 7] rfl)
          · refine lv_aload_n hx hb dWh_add_54 rfl (lv_at hl 5 rfl) ?_
            refine va_get (D := (dC, dI)) (ci := 5) (v := .ref h) (C := "MacroReckoner$Whole") (T := TWh) (N := 2) hx hb hts inWh hown hK hP 2 rfl rfl 0 (by decide) (hts _ wt1_92) (fun _ h9 => h9) rfl dWh_add_55 ?_
            refine lv_iload hx hb dWh_add_58 (lv_at hl 1 rfl) ?_
            refine iv_iald hx hb hK hP 3 0 rfl rfl (by decide) dWh_add_60 (by omega) (by omega) ?_
            refine lv_goto (tgt := 65) hx hb dWh_add_61 (by decide) ?_
            refine lv_istore (lv' := [(6, .int (iI (G i))), (5, .int (iI hh)), (4, .int (iI i)), (3, .int (iI cy)), (2, .int (iI (max u v))), (0, .ref a), (1, .ref b)]) hx hb dWh_add_65 hl (by decide) rfl (fun ls hl => ?_)
            obtain ⟨tt, e_tt⟩ : ∃ z : Int, z = G i := ⟨_, rfl⟩
            rw [← e_tt] at hl
            have htb : tt = ze G v i ∧ 0 ≤ tt ∧ tt < 1000000000 := by rw [e_tt]; first | (rw [ze_in hc51]; exact ⟨rfl, hV.2.1 i (by omega) hc51⟩) | (rw [ze_out hc51]; omega)
            refine lv_iload hx hb dWh_add_67 (lv_at hl 1 rfl) ?_
            refine lv_iload hx hb dWh_add_69 (lv_at hl 0 rfl) ?_
            refine iv_iadd hx hb dWh_add_71 ?_
            refine lv_iload_n hx hb dWh_add_72 rfl (lv_at hl 3 rfl) ?_
            refine iv_iadd hx hb dWh_add_73 ?_
            refine lv_istore (lv' := [(7, .int (iI ((hh + tt) + cy))), (6, .int (iI tt)), (5, .int (iI hh)), (4, .int (iI i)), (3, .int (iI cy)), (2, .int (iI (max u v))), (0, .ref a), (1, .ref b)]) hx hb dWh_add_74 hl (by decide) rfl (fun ls hl => ?_)
            refine lv_iload hx hb dWh_add_76 (lv_at hl 0 rfl) ?_
            refine lv_ldc (v := iI 1000000000) hx hb hown ((by decide : (1000000000 : Int32) = iI 1000000000) ▸ hts _ wt3_82) dWh_add_78 ?_
            refine iv_icmp_lt (tgt := 87) hx hb dWh_add_80 (by decide) ⟨by omega, by omega⟩ ⟨by decide, by decide⟩ (fun hc80 => ?_) (fun hc80 => ?_)
            · refine lv_iconst (v := iI 0) hx hb dWh_add_87 rfl ?_
              refine lv_istore_n (lv' := [(3, .int (iI 0)), (7, .int (iI ((hh + tt) + cy))), (6, .int (iI tt)), (5, .int (iI hh)), (4, .int (iI i)), (2, .int (iI (max u v))), (0, .ref a), (1, .ref b)]) hx hb dWh_add_88 rfl hl (by decide) rfl (fun ls hl => ?_)
              refine lv_aload_n hx hb dWh_add_89 rfl (lv_at hl 6 rfl) ?_
              refine va_get (D := (dC, dI)) (ci := 5) (v := .ref g) (C := "MacroReckoner$Whole") (T := TWh) (N := 2) hx hb hts inWh hown hK hP 0 rfl rfl 0 (by decide) (hts _ wt1_92) (fun _ h9 => h9) rfl dWh_add_90 ?_
              refine lv_iload hx hb dWh_add_93 (lv_at hl 4 rfl) ?_
              refine lv_iload hx hb dWh_add_95 (lv_at hl 1 rfl) ?_
              refine lv_iload_n hx hb dWh_add_97 rfl (lv_at hl 0 rfl) ?_
              refine lv_ldc (v := iI 1000000000) hx hb hown ((by decide : (1000000000 : Int32) = iI 1000000000) ▸ hts _ wt3_82) dWh_add_98 ?_
              refine iv_imul hx hb dWh_add_100 ?_
              refine iv_isub hx hb dWh_add_101 ?_
              refine iv_iast (v := ((hh + tt) + cy) - (0 * 1000000000)) hx hb hK hP hD hS 1 0 rfl rfl (by decide) dWh_add_102 (by omega) (by omega) (fun H locs hP hD hS => ?_)
              have hP : va_P (dC, dI) vwCl (wWh dA a g (up F9 i (((hh + tt) + cy) - (0 * 1000000000))) u (wWh dA b h G v [])) H := hP
              have hD : va_D A (wWh dA a g (up F9 i (((hh + tt) + cy) - (0 * 1000000000))) u (wWh dA b h G v [])) := hD
              refine lv_iinc (k := 4) (lv' := [(4, .int (iI (i + 1))), (3, .int (iI 0)), (7, .int (iI ((hh + tt) + cy))), (6, .int (iI tt)), (5, .int (iI hh)), (2, .int (iI (max u v))), (0, .ref a), (1, .ref b)]) (v := iI (i + 1)) hx hb dWh_add_103 hl rfl (iI_add _ _).symm (by decide) rfl (fun ls hl => ?_)
              refine lv_goto (tgt := 17) hx hb dWh_add_106 (by decide) ?_
              exact ih17 (up F9 i (((hh + tt) + cy) - (0 * 1000000000))) 0 (i + 1) H locs ls (by omega) (by exact add_s hJ hhb.1 htb.1 hhb.2 htb.2 (by omega)) (by omega) hP hD hS (lv_sub hl [0, 1, 5, 6, 7] rfl)
            · refine lv_iconst (v := iI 1) hx hb dWh_add_83 rfl ?_
              refine lv_goto (tgt := 88) hx hb dWh_add_84 (by decide) ?_
              refine lv_istore_n (lv' := [(3, .int (iI 1)), (7, .int (iI ((hh + tt) + cy))), (6, .int (iI tt)), (5, .int (iI hh)), (4, .int (iI i)), (2, .int (iI (max u v))), (0, .ref a), (1, .ref b)]) hx hb dWh_add_88 rfl hl (by decide) rfl (fun ls hl => ?_)
              refine lv_aload_n hx hb dWh_add_89 rfl (lv_at hl 6 rfl) ?_
              refine va_get (D := (dC, dI)) (ci := 5) (v := .ref g) (C := "MacroReckoner$Whole") (T := TWh) (N := 2) hx hb hts inWh hown hK hP 0 rfl rfl 0 (by decide) (hts _ wt1_92) (fun _ h9 => h9) rfl dWh_add_90 ?_
              refine lv_iload hx hb dWh_add_93 (lv_at hl 4 rfl) ?_
              refine lv_iload hx hb dWh_add_95 (lv_at hl 1 rfl) ?_
              refine lv_iload_n hx hb dWh_add_97 rfl (lv_at hl 0 rfl) ?_
              refine lv_ldc (v := iI 1000000000) hx hb hown ((by decide : (1000000000 : Int32) = iI 1000000000) ▸ hts _ wt3_82) dWh_add_98 ?_
              refine iv_imul hx hb dWh_add_100 ?_
              refine iv_isub hx hb dWh_add_101 ?_
              refine iv_iast (v := ((hh + tt) + cy) - (1 * 1000000000)) hx hb hK hP hD hS 1 0 rfl rfl (by decide) dWh_add_102 (by omega) (by omega) (fun H locs hP hD hS => ?_)
              have hP : va_P (dC, dI) vwCl (wWh dA a g (up F9 i (((hh + tt) + cy) - (1 * 1000000000))) u (wWh dA b h G v [])) H := hP
              have hD : va_D A (wWh dA a g (up F9 i (((hh + tt) + cy) - (1 * 1000000000))) u (wWh dA b h G v [])) := hD
              refine lv_iinc (k := 4) (lv' := [(4, .int (iI (i + 1))), (3, .int (iI 1)), (7, .int (iI ((hh + tt) + cy))), (6, .int (iI tt)), (5, .int (iI hh)), (2, .int (iI (max u v))), (0, .ref a), (1, .ref b)]) (v := iI (i + 1)) hx hb dWh_add_103 hl rfl (iI_add _ _).symm (by decide) rfl (fun ls hl => ?_)
              refine lv_goto (tgt := 17) hx hb dWh_add_106 (by decide) ?_
              exact ih17 (up F9 i (((hh + tt) + cy) - (1 * 1000000000))) 1 (i + 1) H locs ls (by omega) (by exact add_s hJ hhb.1 htb.1 hhb.2 htb.2 (by omega)) (by omega) hP hD hS (lv_sub hl [0, 1, 5, 6, 7] rfl)
        · refine lv_aload_n hx hb dWh_add_32 rfl (lv_at hl 3 rfl) ?_
          refine va_get (D := (dC, dI)) (ci := 5) (v := .ref g) (C := "MacroReckoner$Whole") (T := TWh) (N := 2) hx hb hts inWh hown hK hP 0 rfl rfl 0 (by decide) (hts _ wt1_92) (fun _ h9 => h9) rfl dWh_add_33 ?_
          refine lv_iload hx hb dWh_add_36 (lv_at hl 0 rfl) ?_
          refine iv_iald hx hb hK hP 1 0 rfl rfl (by decide) dWh_add_38 (by omega) (by omega) ?_
          refine lv_goto (tgt := 43) hx hb dWh_add_39 (by decide) ?_
          refine lv_istore (lv' := [(5, .int (iI (F9 i))), (4, .int (iI i)), (3, .int (iI cy)), (2, .int (iI (max u v))), (0, .ref a), (1, .ref b)]) hx hb dWh_add_43 hl (by decide) rfl (fun ls hl => ?_)
          obtain ⟨hh, e_hh⟩ : ∃ z : Int, z = F9 i := ⟨_, rfl⟩
          rw [← e_hh] at hl
          have hhb : hh = ze F u i ∧ 0 ≤ hh ∧ hh < 1000000000 := by rw [e_hh]; first | (rw [add_h hJ hc29]; exact ⟨rfl, ze_bd hW (by omega)⟩) | (rw [ze_out hc29]; omega)
          refine lv_iload hx hb dWh_add_45 (lv_at hl 1 rfl) ?_
          refine lv_aload_n hx hb dWh_add_47 rfl (lv_at hl 5 rfl) ?_
          refine va_get (D := (dC, dI)) (ci := 5) (v := .int (iI v)) (C := "MacroReckoner$Whole") (T := TWh) (N := 2) hx hb hts inWh hown hK hP 2 rfl rfl 1 (by decide) (hts _ wt1_93) (fun _ h9 => h9) rfl dWh_add_48 ?_
          refine iv_icmp_ge (tgt := 64) hx hb dWh_add_51 (by decide) ⟨by omega, by omega⟩ ⟨by omega, by omega⟩ (fun hc51 => ?_) (fun hc51 => ?_)
          · refine lv_iconst (v := iI 0) hx hb dWh_add_64 rfl ?_
            refine lv_istore (lv' := [(6, .int (iI 0)), (5, .int (iI hh)), (4, .int (iI i)), (3, .int (iI cy)), (2, .int (iI (max u v))), (0, .ref a), (1, .ref b)]) hx hb dWh_add_65 hl (by decide) rfl (fun ls hl => ?_)
            obtain ⟨tt, e_tt⟩ : ∃ z : Int, z = 0 := ⟨_, rfl⟩
            rw [← e_tt] at hl
            have htb : tt = ze G v i ∧ 0 ≤ tt ∧ tt < 1000000000 := by rw [e_tt]; first | (rw [ze_in hc51]; exact ⟨rfl, hV.2.1 i (by omega) hc51⟩) | (rw [ze_out hc51]; omega)
            refine lv_iload hx hb dWh_add_67 (lv_at hl 1 rfl) ?_
            refine lv_iload hx hb dWh_add_69 (lv_at hl 0 rfl) ?_
            refine iv_iadd hx hb dWh_add_71 ?_
            refine lv_iload_n hx hb dWh_add_72 rfl (lv_at hl 3 rfl) ?_
            refine iv_iadd hx hb dWh_add_73 ?_
            refine lv_istore (lv' := [(7, .int (iI ((hh + tt) + cy))), (6, .int (iI tt)), (5, .int (iI hh)), (4, .int (iI i)), (3, .int (iI cy)), (2, .int (iI (max u v))), (0, .ref a), (1, .ref b)]) hx hb dWh_add_74 hl (by decide) rfl (fun ls hl => ?_)
            refine lv_iload hx hb dWh_add_76 (lv_at hl 0 rfl) ?_
            refine lv_ldc (v := iI 1000000000) hx hb hown ((by decide : (1000000000 : Int32) = iI 1000000000) ▸ hts _ wt3_82) dWh_add_78 ?_
            refine iv_icmp_lt (tgt := 87) hx hb dWh_add_80 (by decide) ⟨by omega, by omega⟩ ⟨by decide, by decide⟩ (fun hc80 => ?_) (fun hc80 => ?_)
            · refine lv_iconst (v := iI 0) hx hb dWh_add_87 rfl ?_
              refine lv_istore_n (lv' := [(3, .int (iI 0)), (7, .int (iI ((hh + tt) + cy))), (6, .int (iI tt)), (5, .int (iI hh)), (4, .int (iI i)), (2, .int (iI (max u v))), (0, .ref a), (1, .ref b)]) hx hb dWh_add_88 rfl hl (by decide) rfl (fun ls hl => ?_)
              refine lv_aload_n hx hb dWh_add_89 rfl (lv_at hl 6 rfl) ?_
              refine va_get (D := (dC, dI)) (ci := 5) (v := .ref g) (C := "MacroReckoner$Whole") (T := TWh) (N := 2) hx hb hts inWh hown hK hP 0 rfl rfl 0 (by decide) (hts _ wt1_92) (fun _ h9 => h9) rfl dWh_add_90 ?_
              refine lv_iload hx hb dWh_add_93 (lv_at hl 4 rfl) ?_
              refine lv_iload hx hb dWh_add_95 (lv_at hl 1 rfl) ?_
              refine lv_iload_n hx hb dWh_add_97 rfl (lv_at hl 0 rfl) ?_
              refine lv_ldc (v := iI 1000000000) hx hb hown ((by decide : (1000000000 : Int32) = iI 1000000000) ▸ hts _ wt3_82) dWh_add_98 ?_
              refine iv_imul hx hb dWh_add_100 ?_
              refine iv_isub hx hb dWh_add_101 ?_
              refine iv_iast (v := ((hh + tt) + cy) - (0 * 1000000000)) hx hb hK hP hD hS 1 0 rfl rfl (by decide) dWh_add_102 (by omega) (by omega) (fun H locs hP hD hS => ?_)
              have hP : va_P (dC, dI) vwCl (wWh dA a g (up F9 i (((hh + tt) + cy) - (0 * 1000000000))) u (wWh dA b h G v [])) H := hP
              have hD : va_D A (wWh dA a g (up F9 i (((hh + tt) + cy) - (0 * 1000000000))) u (wWh dA b h G v [])) := hD
              refine lv_iinc (k := 4) (lv' := [(4, .int (iI (i + 1))), (3, .int (iI 0)), (7, .int (iI ((hh + tt) + cy))), (6, .int (iI tt)), (5, .int (iI hh)), (2, .int (iI (max u v))), (0, .ref a), (1, .ref b)]) (v := iI (i + 1)) hx hb dWh_add_103 hl rfl (iI_add _ _).symm (by decide) rfl (fun ls hl => ?_)
              refine lv_goto (tgt := 17) hx hb dWh_add_106 (by decide) ?_
              exact ih17 (up F9 i (((hh + tt) + cy) - (0 * 1000000000))) 0 (i + 1) H locs ls (by omega) (by exact add_s hJ hhb.1 htb.1 hhb.2 htb.2 (by omega)) (by omega) hP hD hS (lv_sub hl [0, 1, 5, 6, 7] rfl)
            · refine lv_iconst (v := iI 1) hx hb dWh_add_83 rfl ?_
              refine lv_goto (tgt := 88) hx hb dWh_add_84 (by decide) ?_
              refine lv_istore_n (lv' := [(3, .int (iI 1)), (7, .int (iI ((hh + tt) + cy))), (6, .int (iI tt)), (5, .int (iI hh)), (4, .int (iI i)), (2, .int (iI (max u v))), (0, .ref a), (1, .ref b)]) hx hb dWh_add_88 rfl hl (by decide) rfl (fun ls hl => ?_)
              refine lv_aload_n hx hb dWh_add_89 rfl (lv_at hl 6 rfl) ?_
              refine va_get (D := (dC, dI)) (ci := 5) (v := .ref g) (C := "MacroReckoner$Whole") (T := TWh) (N := 2) hx hb hts inWh hown hK hP 0 rfl rfl 0 (by decide) (hts _ wt1_92) (fun _ h9 => h9) rfl dWh_add_90 ?_
              refine lv_iload hx hb dWh_add_93 (lv_at hl 4 rfl) ?_
              refine lv_iload hx hb dWh_add_95 (lv_at hl 1 rfl) ?_
              refine lv_iload_n hx hb dWh_add_97 rfl (lv_at hl 0 rfl) ?_
              refine lv_ldc (v := iI 1000000000) hx hb hown ((by decide : (1000000000 : Int32) = iI 1000000000) ▸ hts _ wt3_82) dWh_add_98 ?_
              refine iv_imul hx hb dWh_add_100 ?_
              refine iv_isub hx hb dWh_add_101 ?_
              refine iv_iast (v := ((hh + tt) + cy) - (1 * 1000000000)) hx hb hK hP hD hS 1 0 rfl rfl (by decide) dWh_add_102 (by omega) (by omega) (fun H locs hP hD hS => ?_)
              have hP : va_P (dC, dI) vwCl (wWh dA a g (up F9 i (((hh + tt) + cy) - (1 * 1000000000))) u (wWh dA b h G v [])) H := hP
              have hD : va_D A (wWh dA a g (up F9 i (((hh + tt) + cy) - (1 * 1000000000))) u (wWh dA b h G v [])) := hD
              refine lv_iinc (k := 4) (lv' := [(4, .int (iI (i + 1))), (3, .int (iI 1)), (7, .int (iI ((hh + tt) + cy))), (6, .int (iI tt)), (5, .int (iI hh)), (2, .int (iI (max u v))), (0, .ref a), (1, .ref b)]) (v := iI (i + 1)) hx hb dWh_add_103 hl rfl (iI_add _ _).symm (by decide) rfl (fun ls hl => ?_)
              refine lv_goto (tgt := 17) hx hb dWh_add_106 (by decide) ?_
              exact ih17 (up F9 i (((hh + tt) + cy) - (1 * 1000000000))) 1 (i + 1) H locs ls (by omega) (by exact add_s hJ hhb.1 htb.1 hhb.2 htb.2 (by omega)) (by omega) hP hD hS (lv_sub hl [0, 1, 5, 6, 7] rfl)
          · refine lv_aload_n hx hb dWh_add_54 rfl (lv_at hl 5 rfl) ?_
            refine va_get (D := (dC, dI)) (ci := 5) (v := .ref h) (C := "MacroReckoner$Whole") (T := TWh) (N := 2) hx hb hts inWh hown hK hP 2 rfl rfl 0 (by decide) (hts _ wt1_92) (fun _ h9 => h9) rfl dWh_add_55 ?_
            refine lv_iload hx hb dWh_add_58 (lv_at hl 1 rfl) ?_
            refine iv_iald hx hb hK hP 3 0 rfl rfl (by decide) dWh_add_60 (by omega) (by omega) ?_
            refine lv_goto (tgt := 65) hx hb dWh_add_61 (by decide) ?_
            refine lv_istore (lv' := [(6, .int (iI (G i))), (5, .int (iI hh)), (4, .int (iI i)), (3, .int (iI cy)), (2, .int (iI (max u v))), (0, .ref a), (1, .ref b)]) hx hb dWh_add_65 hl (by decide) rfl (fun ls hl => ?_)
            obtain ⟨tt, e_tt⟩ : ∃ z : Int, z = G i := ⟨_, rfl⟩
            rw [← e_tt] at hl
            have htb : tt = ze G v i ∧ 0 ≤ tt ∧ tt < 1000000000 := by rw [e_tt]; first | (rw [ze_in hc51]; exact ⟨rfl, hV.2.1 i (by omega) hc51⟩) | (rw [ze_out hc51]; omega)
            refine lv_iload hx hb dWh_add_67 (lv_at hl 1 rfl) ?_
            refine lv_iload hx hb dWh_add_69 (lv_at hl 0 rfl) ?_
            refine iv_iadd hx hb dWh_add_71 ?_
            refine lv_iload_n hx hb dWh_add_72 rfl (lv_at hl 3 rfl) ?_
            refine iv_iadd hx hb dWh_add_73 ?_
            refine lv_istore (lv' := [(7, .int (iI ((hh + tt) + cy))), (6, .int (iI tt)), (5, .int (iI hh)), (4, .int (iI i)), (3, .int (iI cy)), (2, .int (iI (max u v))), (0, .ref a), (1, .ref b)]) hx hb dWh_add_74 hl (by decide) rfl (fun ls hl => ?_)
            refine lv_iload hx hb dWh_add_76 (lv_at hl 0 rfl) ?_
            refine lv_ldc (v := iI 1000000000) hx hb hown ((by decide : (1000000000 : Int32) = iI 1000000000) ▸ hts _ wt3_82) dWh_add_78 ?_
            refine iv_icmp_lt (tgt := 87) hx hb dWh_add_80 (by decide) ⟨by omega, by omega⟩ ⟨by decide, by decide⟩ (fun hc80 => ?_) (fun hc80 => ?_)
            · refine lv_iconst (v := iI 0) hx hb dWh_add_87 rfl ?_
              refine lv_istore_n (lv' := [(3, .int (iI 0)), (7, .int (iI ((hh + tt) + cy))), (6, .int (iI tt)), (5, .int (iI hh)), (4, .int (iI i)), (2, .int (iI (max u v))), (0, .ref a), (1, .ref b)]) hx hb dWh_add_88 rfl hl (by decide) rfl (fun ls hl => ?_)
              refine lv_aload_n hx hb dWh_add_89 rfl (lv_at hl 6 rfl) ?_
              refine va_get (D := (dC, dI)) (ci := 5) (v := .ref g) (C := "MacroReckoner$Whole") (T := TWh) (N := 2) hx hb hts inWh hown hK hP 0 rfl rfl 0 (by decide) (hts _ wt1_92) (fun _ h9 => h9) rfl dWh_add_90 ?_
              refine lv_iload hx hb dWh_add_93 (lv_at hl 4 rfl) ?_
              refine lv_iload hx hb dWh_add_95 (lv_at hl 1 rfl) ?_
              refine lv_iload_n hx hb dWh_add_97 rfl (lv_at hl 0 rfl) ?_
              refine lv_ldc (v := iI 1000000000) hx hb hown ((by decide : (1000000000 : Int32) = iI 1000000000) ▸ hts _ wt3_82) dWh_add_98 ?_
              refine iv_imul hx hb dWh_add_100 ?_
              refine iv_isub hx hb dWh_add_101 ?_
              refine iv_iast (v := ((hh + tt) + cy) - (0 * 1000000000)) hx hb hK hP hD hS 1 0 rfl rfl (by decide) dWh_add_102 (by omega) (by omega) (fun H locs hP hD hS => ?_)
              have hP : va_P (dC, dI) vwCl (wWh dA a g (up F9 i (((hh + tt) + cy) - (0 * 1000000000))) u (wWh dA b h G v [])) H := hP
              have hD : va_D A (wWh dA a g (up F9 i (((hh + tt) + cy) - (0 * 1000000000))) u (wWh dA b h G v [])) := hD
              refine lv_iinc (k := 4) (lv' := [(4, .int (iI (i + 1))), (3, .int (iI 0)), (7, .int (iI ((hh + tt) + cy))), (6, .int (iI tt)), (5, .int (iI hh)), (2, .int (iI (max u v))), (0, .ref a), (1, .ref b)]) (v := iI (i + 1)) hx hb dWh_add_103 hl rfl (iI_add _ _).symm (by decide) rfl (fun ls hl => ?_)
              refine lv_goto (tgt := 17) hx hb dWh_add_106 (by decide) ?_
              exact ih17 (up F9 i (((hh + tt) + cy) - (0 * 1000000000))) 0 (i + 1) H locs ls (by omega) (by exact add_s hJ hhb.1 htb.1 hhb.2 htb.2 (by omega)) (by omega) hP hD hS (lv_sub hl [0, 1, 5, 6, 7] rfl)
            · refine lv_iconst (v := iI 1) hx hb dWh_add_83 rfl ?_
              refine lv_goto (tgt := 88) hx hb dWh_add_84 (by decide) ?_
              refine lv_istore_n (lv' := [(3, .int (iI 1)), (7, .int (iI ((hh + tt) + cy))), (6, .int (iI tt)), (5, .int (iI hh)), (4, .int (iI i)), (2, .int (iI (max u v))), (0, .ref a), (1, .ref b)]) hx hb dWh_add_88 rfl hl (by decide) rfl (fun ls hl => ?_)
              refine lv_aload_n hx hb dWh_add_89 rfl (lv_at hl 6 rfl) ?_
              refine va_get (D := (dC, dI)) (ci := 5) (v := .ref g) (C := "MacroReckoner$Whole") (T := TWh) (N := 2) hx hb hts inWh hown hK hP 0 rfl rfl 0 (by decide) (hts _ wt1_92) (fun _ h9 => h9) rfl dWh_add_90 ?_
              refine lv_iload hx hb dWh_add_93 (lv_at hl 4 rfl) ?_
              refine lv_iload hx hb dWh_add_95 (lv_at hl 1 rfl) ?_
              refine lv_iload_n hx hb dWh_add_97 rfl (lv_at hl 0 rfl) ?_
              refine lv_ldc (v := iI 1000000000) hx hb hown ((by decide : (1000000000 : Int32) = iI 1000000000) ▸ hts _ wt3_82) dWh_add_98 ?_
              refine iv_imul hx hb dWh_add_100 ?_
              refine iv_isub hx hb dWh_add_101 ?_
              refine iv_iast (v := ((hh + tt) + cy) - (1 * 1000000000)) hx hb hK hP hD hS 1 0 rfl rfl (by decide) dWh_add_102 (by omega) (by omega) (fun H locs hP hD hS => ?_)
              have hP : va_P (dC, dI) vwCl (wWh dA a g (up F9 i (((hh + tt) + cy) - (1 * 1000000000))) u (wWh dA b h G v [])) H := hP
              have hD : va_D A (wWh dA a g (up F9 i (((hh + tt) + cy) - (1 * 1000000000))) u (wWh dA b h G v [])) := hD
              refine lv_iinc (k := 4) (lv' := [(4, .int (iI (i + 1))), (3, .int (iI 1)), (7, .int (iI ((hh + tt) + cy))), (6, .int (iI tt)), (5, .int (iI hh)), (2, .int (iI (max u v))), (0, .ref a), (1, .ref b)]) (v := iI (i + 1)) hx hb dWh_add_103 hl rfl (iI_add _ _).symm (by decide) rfl (fun ls hl => ?_)
              refine lv_goto (tgt := 17) hx hb dWh_add_106 (by decide) ?_
              exact ih17 (up F9 i (((hh + tt) + cy) - (1 * 1000000000))) 1 (i + 1) H locs ls (by omega) (by exact add_s hJ hhb.1 htb.1 hhb.2 htb.2 (by omega)) (by omega) hP hD hS (lv_sub hl [0, 1, 5, 6, 7] rfl)
  exact L17 _ F 0 0 H locs ls (by omega) (by exact add_0) (Nat.lt_succ_self _) hP hD hS (lv_sub hl [0, 1, 2, 3, 4] rfl)

theorem dWh_subtract_0 : decode prog_7_method_15_code 0 = .ok (.iconst 0, 1) := by decide +kernel
theorem dWh_subtract_1 : decode prog_7_method_15_code 1 = .ok (.istore_n 2, 1) := by decide +kernel
theorem dWh_subtract_2 : decode prog_7_method_15_code 2 = .ok (.iconst 0, 1) := by decide +kernel
theorem dWh_subtract_3 : decode prog_7_method_15_code 3 = .ok (.istore_n 3, 1) := by decide +kernel
theorem dWh_subtract_4 : decode prog_7_method_15_code 4 = .ok (.iload_n 3, 1) := by decide +kernel
theorem dWh_subtract_5 : decode prog_7_method_15_code 5 = .ok (.aload_n 0, 1) := by decide +kernel
theorem dWh_subtract_6 : decode prog_7_method_15_code 6 = .ok (.getfield 13, 3) := by decide +kernel
theorem dWh_subtract_9 : decode prog_7_method_15_code 9 = .ok (.if_icmp .ge 66, 3) := by decide +kernel
theorem dWh_subtract_12 : decode prog_7_method_15_code 12 = .ok (.iload_n 3, 1) := by decide +kernel
theorem dWh_subtract_13 : decode prog_7_method_15_code 13 = .ok (.aload_n 1, 1) := by decide +kernel
theorem dWh_subtract_14 : decode prog_7_method_15_code 14 = .ok (.getfield 13, 3) := by decide +kernel
theorem dWh_subtract_17 : decode prog_7_method_15_code 17 = .ok (.if_icmp .ge 12, 3) := by decide +kernel
theorem dWh_subtract_20 : decode prog_7_method_15_code 20 = .ok (.aload_n 1, 1) := by decide +kernel
theorem dWh_subtract_21 : decode prog_7_method_15_code 21 = .ok (.getfield 9, 3) := by decide +kernel
theorem dWh_subtract_24 : decode prog_7_method_15_code 24 = .ok (.iload_n 3, 1) := by decide +kernel
theorem dWh_subtract_25 : decode prog_7_method_15_code 25 = .ok (.iaload, 1) := by decide +kernel
theorem dWh_subtract_26 : decode prog_7_method_15_code 26 = .ok (.goto 4, 3) := by decide +kernel
theorem dWh_subtract_29 : decode prog_7_method_15_code 29 = .ok (.iconst 0, 1) := by decide +kernel
theorem dWh_subtract_30 : decode prog_7_method_15_code 30 = .ok (.istore 4, 2) := by decide +kernel
theorem dWh_subtract_32 : decode prog_7_method_15_code 32 = .ok (.aload_n 0, 1) := by decide +kernel
theorem dWh_subtract_33 : decode prog_7_method_15_code 33 = .ok (.getfield 9, 3) := by decide +kernel
theorem dWh_subtract_36 : decode prog_7_method_15_code 36 = .ok (.iload_n 3, 1) := by decide +kernel
theorem dWh_subtract_37 : decode prog_7_method_15_code 37 = .ok (.iaload, 1) := by decide +kernel
theorem dWh_subtract_38 : decode prog_7_method_15_code 38 = .ok (.iload 4, 2) := by decide +kernel
theorem dWh_subtract_40 : decode prog_7_method_15_code 40 = .ok (.isub, 1) := by decide +kernel
theorem dWh_subtract_41 : decode prog_7_method_15_code 41 = .ok (.iload_n 2, 1) := by decide +kernel
theorem dWh_subtract_42 : decode prog_7_method_15_code 42 = .ok (.isub, 1) := by decide +kernel
theorem dWh_subtract_43 : decode prog_7_method_15_code 43 = .ok (.istore 5, 2) := by decide +kernel
theorem dWh_subtract_45 : decode prog_7_method_15_code 45 = .ok (.iload 5, 2) := by decide +kernel
theorem dWh_subtract_47 : decode prog_7_method_15_code 47 = .ok (.ifCond .ge 7, 3) := by decide +kernel
theorem dWh_subtract_50 : decode prog_7_method_15_code 50 = .ok (.iconst 1, 1) := by decide +kernel
theorem dWh_subtract_51 : decode prog_7_method_15_code 51 = .ok (.goto 4, 3) := by decide +kernel
theorem dWh_subtract_54 : decode prog_7_method_15_code 54 = .ok (.iconst 0, 1) := by decide +kernel
theorem dWh_subtract_55 : decode prog_7_method_15_code 55 = .ok (.istore_n 2, 1) := by decide +kernel
theorem dWh_subtract_56 : decode prog_7_method_15_code 56 = .ok (.aload_n 0, 1) := by decide +kernel
theorem dWh_subtract_57 : decode prog_7_method_15_code 57 = .ok (.getfield 9, 3) := by decide +kernel
theorem dWh_subtract_60 : decode prog_7_method_15_code 60 = .ok (.iload_n 3, 1) := by decide +kernel
theorem dWh_subtract_61 : decode prog_7_method_15_code 61 = .ok (.iload 5, 2) := by decide +kernel
theorem dWh_subtract_63 : decode prog_7_method_15_code 63 = .ok (.iload_n 2, 1) := by decide +kernel
theorem dWh_subtract_64 : decode prog_7_method_15_code 64 = .ok (.ldc 54, 2) := by decide +kernel
theorem dWh_subtract_66 : decode prog_7_method_15_code 66 = .ok (.imul, 1) := by decide +kernel
theorem dWh_subtract_67 : decode prog_7_method_15_code 67 = .ok (.iadd, 1) := by decide +kernel
theorem dWh_subtract_68 : decode prog_7_method_15_code 68 = .ok (.iastore, 1) := by decide +kernel
theorem dWh_subtract_69 : decode prog_7_method_15_code 69 = .ok (.iinc 3 1, 3) := by decide +kernel
theorem dWh_subtract_72 : decode prog_7_method_15_code 72 = .ok (.goto (-68), 3) := by decide +kernel
theorem dWh_subtract_75 : decode prog_7_method_15_code 75 = .ok (.aload_n 0, 1) := by decide +kernel
theorem dWh_subtract_76 : decode prog_7_method_15_code 76 = .ok (.invokevirtual 48, 3) := by decide +kernel
theorem dWh_subtract_79 : decode prog_7_method_15_code 79 = .ok (.return_, 1) := by decide +kernel
abbrev qWh_subtract (dC : Nat → ClassId) (dI : Nat → Nat → Nat) (dA : Nat → ClassId) (a : Nat) (g : Nat) (F : Int → Int) (u : Int) (N : Int) (b : Nat) (h : Nat) (G : Int → Int) (v : Int) (M : Int) (A : Nat → Prop) : Array Value → State → Outcome → State → Prop := QV (dC, dI) vwCl (tyA dA) (fun (v_ : (Int → Int) × Int) => WR v_.1 v_.2 (N - M)) (fun (v_ : (Int → Int) × Int) => wWh dA a g v_.1 v_.2 (wWh dA b h G v [])) A
abbrev rmWh_subtract : Room := { frames := 1, cells := 0, slots := 0, locals := 20 }
set_option maxRecDepth 100000 in
set_option maxHeartbeats 1000000 in
theorem cWh_subtract (l : Launch) (dC : Nat → ClassId) (dI : Nat → Nat → Nat) (dA : Nat → ClassId) (a : Nat) (g : Nat) (F : Int → Int) (u : Int) (N : Int) (b : Nat) (h : Nat) (G : Int → Int) (v : Int) (M : Int) (hW : WR F u N) (hV : WR G v M) (hmn : M ≤ N) (sz : Nat) : Met l yWh_subtract wsWh_subtract rmWh_subtract (PC (dC, dI) vwCl (tyA dA) XN [.ref a, .ref b] (wWh dA a g F u (wWh dA b h G v [])) sz) (qWh_subtract dC dI dA a g F u N b h G v M (va_A (wWh dA a g F u (wWh dA b h G v [])) sz)) 0 0 (va_A (wWh dA a g F u (wWh dA b h G v [])) sz) := by
  refine met_of (cc := prog_7_method_15_code) (maxL := 6) (ret := none) (Qc := qWh_subtract dC dI dA a g F u N b h G v M) XN_ok (by decide) rfl (Nat.le_of_ble_eq_true rfl) ?_
  intro p e s m below meth c ls A hx hb hr hml hown hts hlocks hnm hK hP hD hA hX hS hl
  have hl : lv_has ls 6 [(0, .ref a), (1, .ref b)] := hl
  have hown : s.vm.findClass "MacroReckoner$Whole" = some m.cls := hown
  obtain ⟨H, hH⟩ : ∃ H : Heap, H = s.heap := ⟨_, rfl⟩
  obtain ⟨locs, hlo⟩ : ∃ L : List Loc, L = [] := ⟨_, rfl⟩
  have hP : va_P (dC, dI) vwCl (wWh dA a g F u (wWh dA b h G v [])) H := hH ▸ hP
  have hS : va_S A s.heap H locs := by rw [hH, hlo]; exact hS
  suffices hgo : W p l e rmWh_subtract s m [.ref a, .ref b].toArray below meth c H locs 0 0 (MQ below (qWh_subtract dC dI dA a g F u N b h G v M A) [.ref a, .ref b].toArray s 0 0 A) (F0 m 0 ls []) by rw [hH, hlo] at hgo; exact hgo
  clear hH hlo
  have hu := hW.1
  have hv := hV.1
  refine lv_iconst (v := iI 0) hx hb dWh_subtract_0 rfl ?_
  refine lv_istore_n (lv' := [(2, .int (iI 0)), (0, .ref a), (1, .ref b)]) hx hb dWh_subtract_1 rfl hl (by decide) rfl (fun ls hl => ?_)
  refine lv_iconst (v := iI 0) hx hb dWh_subtract_2 rfl ?_
  refine lv_istore_n (lv' := [(3, .int (iI 0)), (2, .int (iI 0)), (0, .ref a), (1, .ref b)]) hx hb dWh_subtract_3 rfl hl (by decide) rfl (fun ls hl => ?_)
  have L4 : ∀ (n : Nat) (F9 : Int → Int) (bw : Int) (i : Int) (H : Heap) (locs : List Loc) (ls : Array Slot), (i ≤ u) → (subJ F G v F9 bw i) → (u - i).toNat < n → va_P (dC, dI) vwCl (wWh dA a g F9 u (wWh dA b h G v [])) H → va_D A (wWh dA a g F9 u (wWh dA b h G v [])) → va_S A s.heap H locs → lv_has ls 6 [(3, .int (iI i)), (2, .int (iI bw)), (0, .ref a), (1, .ref b)] → W p l e rmWh_subtract s m [.ref a, .ref b].toArray below meth c H locs 0 0 (MQ below (qWh_subtract dC dI dA a g F u N b h G v M A) [.ref a, .ref b].toArray s 0 0 A) (F0 m 4 ls []) := by
    intro n
    induction n with
    | zero => intro F9 bw i H locs ls hi hJ hn; omega
    | succ n ih =>
      intro F9 bw i H locs ls hi hJ hn hP hD hS hl
      have hj := hJ.1
      have hj2 := hJ.2.1
      have hj3 := hJ.2.2.1
      have ih4 := ih
      refine lv_iload_n hx hb dWh_subtract_4 rfl (lv_at hl 0 rfl) ?_
      refine lv_aload_n hx hb dWh_subtract_5 rfl (lv_at hl 2 rfl) ?_
      refine va_get (D := (dC, dI)) (ci := 5) (v := .int (iI u)) (C := "MacroReckoner$Whole") (T := TWh) (N := 2) hx hb hts inWh hown hK hP 0 rfl rfl 1 (by decide) (hts _ wt1_93) (fun _ h9 => h9) rfl dWh_subtract_6 ?_
      refine iv_icmp_ge (tgt := 75) hx hb dWh_subtract_9 (by decide) ⟨by omega, by omega⟩ ⟨by omega, by omega⟩ (fun hc9 => ?_) (fun hc9 => ?_)
      · refine lv_aload_n hx hb dWh_subtract_75 rfl (lv_at hl 2 rfl) ?_
        refine cv_v (va_runV (C := "MacroReckoner$Whole") (As := []) (rest := []) ⟨hx, hb, hml, hown, hts⟩ (cWh_trim l dC dI dA a g F9 u (N - M) (by exact sub_e hW hV hJ (by omega) hmn) H.size) (cwV 0 hts (gdV wt3_100 wt3_102 ws2_1 wt1_5 wt3_103) rfl rfl rfl ⟨rfl, by decide, by decide, by decide +kernel⟩ ⟨by decide, by decide⟩) (preV (q := ("MacroReckoner$Whole", TWh, 2)) hK hP hD hS hA XN_ok trivial [0, 1] rfl rfl 0 rfl rfl) rfl rfl hl.1 rfl (lv_room (Nat.le_of_ble_eq_true rfl)) dWh_subtract_76 ⟨Nat.zero_le _, Nat.zero_le _⟩) hP hD hS hA [0, 1] [2, 3] rfl (fun v_ => wWh dA a g F9 v_ (wWh dA b h G v [])) (fun _ => rfl) (wWh dA b h G v []) rfl (fun _ => rfl) [a, g, b, h] rfl (fun _ => rfl) (fun _ => rfl) (fun u_ H locs hq76 hP hD hS => ?_)
        obtain ⟨u1_76, rfl⟩ : ∃ z, z = u_ := ⟨_, rfl⟩
        have hP : va_P (dC, dI) vwCl (wWh dA a g F9 u1_76 (wWh dA b h G v [])) H := hP
        have hD : va_D A (wWh dA a g F9 u1_76 (wWh dA b h G v [])) := hD
        have hq76 : WR F9 u1_76 (N - M) := hq76
        exact rt_v hx hb hr hlocks hK hS dWh_subtract_79 (F9, u1_76) hP hD (show WR F9 u1_76 (N - M) from by exact hq76)
      · have hdi := hW.2.1 i (by omega) (by omega)
        have hfi := hJ.2.2.2.2.1 i (Int.le_refl i)
        refine lv_iload_n hx hb dWh_subtract_12 rfl (lv_at hl 0 rfl) ?_
        refine lv_aload_n hx hb dWh_subtract_13 rfl (lv_at hl 3 rfl) ?_
        refine va_get (D := (dC, dI)) (ci := 5) (v := .int (iI v)) (C := "MacroReckoner$Whole") (T := TWh) (N := 2) hx hb hts inWh hown hK hP 2 rfl rfl 1 (by decide) (hts _ wt1_93) (fun _ h9 => h9) rfl dWh_subtract_14 ?_
        refine iv_icmp_ge (tgt := 29) hx hb dWh_subtract_17 (by decide) ⟨by omega, by omega⟩ ⟨by omega, by omega⟩ (fun hc17 => ?_) (fun hc17 => ?_)
        · refine lv_iconst (v := iI 0) hx hb dWh_subtract_29 rfl ?_
          refine lv_istore (lv' := [(4, .int (iI 0)), (3, .int (iI i)), (2, .int (iI bw)), (0, .ref a), (1, .ref b)]) hx hb dWh_subtract_30 hl (by decide) rfl (fun ls hl => ?_)
          obtain ⟨tt, e_tt⟩ : ∃ z : Int, z = 0 := ⟨_, rfl⟩
          rw [← e_tt] at hl
          have htb : tt = ze G v i ∧ 0 ≤ tt ∧ tt < 1000000000 := by rw [e_tt]; first | (rw [ze_in hc17]; exact ⟨rfl, hV.2.1 i (by omega) hc17⟩) | (rw [ze_out hc17]; omega)
          refine lv_aload_n hx hb dWh_subtract_32 rfl (lv_at hl 3 rfl) ?_
          refine va_get (D := (dC, dI)) (ci := 5) (v := .ref g) (C := "MacroReckoner$Whole") (T := TWh) (N := 2) hx hb hts inWh hown hK hP 0 rfl rfl 0 (by decide) (hts _ wt1_92) (fun _ h9 => h9) rfl dWh_subtract_33 ?_
          refine lv_iload_n hx hb dWh_subtract_36 rfl (lv_at hl 1 rfl) ?_
          refine iv_iald hx hb hK hP 1 0 rfl rfl (by decide) dWh_subtract_37 (by omega) (by omega) ?_
          refine lv_iload hx hb dWh_subtract_38 (lv_at hl 0 rfl) ?_
          refine iv_isub hx hb dWh_subtract_40 ?_
          refine lv_iload_n hx hb dWh_subtract_41 rfl (lv_at hl 2 rfl) ?_
          refine iv_isub hx hb dWh_subtract_42 ?_
          refine lv_istore (lv' := [(5, .int (iI (((F9 i) - tt) - bw))), (4, .int (iI tt)), (3, .int (iI i)), (2, .int (iI bw)), (0, .ref a), (1, .ref b)]) hx hb dWh_subtract_43 hl (by decide) rfl (fun ls hl => ?_)
          refine lv_iload hx hb dWh_subtract_45 (lv_at hl 0 rfl) ?_
          refine iv_if_ge (tgt := 54) hx hb dWh_subtract_47 (by decide) ⟨by omega, by omega⟩ (fun hc47 => ?_) (fun hc47 => ?_)
          · refine lv_iconst (v := iI 0) hx hb dWh_subtract_54 rfl ?_
            refine lv_istore_n (lv' := [(2, .int (iI 0)), (5, .int (iI (((F9 i) - tt) - bw))), (4, .int (iI tt)), (3, .int (iI i)), (0, .ref a), (1, .ref b)]) hx hb dWh_subtract_55 rfl hl (by decide) rfl (fun ls hl => ?_)
            refine lv_aload_n hx hb dWh_subtract_56 rfl (lv_at hl 4 rfl) ?_
            refine va_get (D := (dC, dI)) (ci := 5) (v := .ref g) (C := "MacroReckoner$Whole") (T := TWh) (N := 2) hx hb hts inWh hown hK hP 0 rfl rfl 0 (by decide) (hts _ wt1_92) (fun _ h9 => h9) rfl dWh_subtract_57 ?_
            refine lv_iload_n hx hb dWh_subtract_60 rfl (lv_at hl 3 rfl) ?_
            refine lv_iload hx hb dWh_subtract_61 (lv_at hl 1 rfl) ?_
            refine lv_iload_n hx hb dWh_subtract_63 rfl (lv_at hl 0 rfl) ?_
            refine lv_ldc (v := iI 1000000000) hx hb hown ((by decide : (1000000000 : Int32) = iI 1000000000) ▸ hts _ wt3_82) dWh_subtract_64 ?_
            refine iv_imul hx hb dWh_subtract_66 ?_
            refine iv_iadd hx hb dWh_subtract_67 ?_
            refine iv_iast (v := (((F9 i) - tt) - bw) + (0 * 1000000000)) hx hb hK hP hD hS 1 0 rfl rfl (by decide) dWh_subtract_68 (by omega) (by omega) (fun H locs hP hD hS => ?_)
            have hP : va_P (dC, dI) vwCl (wWh dA a g (up F9 i ((((F9 i) - tt) - bw) + (0 * 1000000000))) u (wWh dA b h G v [])) H := hP
            have hD : va_D A (wWh dA a g (up F9 i ((((F9 i) - tt) - bw) + (0 * 1000000000))) u (wWh dA b h G v [])) := hD
            refine lv_iinc (k := 3) (lv' := [(3, .int (iI (i + 1))), (2, .int (iI 0)), (5, .int (iI (((F9 i) - tt) - bw))), (4, .int (iI tt)), (0, .ref a), (1, .ref b)]) (v := iI (i + 1)) hx hb dWh_subtract_69 hl rfl (iI_add _ _).symm (by decide) rfl (fun ls hl => ?_)
            refine lv_goto (tgt := 4) hx hb dWh_subtract_72 (by decide) ?_
            exact ih4 (up F9 i ((((F9 i) - tt) - bw) + (0 * 1000000000))) 0 (i + 1) H locs ls (by omega) (by exact sub_s hJ hdi htb.1 htb.2 (by omega)) (by omega) hP hD hS (lv_sub hl [0, 1, 4, 5] rfl)
          · refine lv_iconst (v := iI 1) hx hb dWh_subtract_50 rfl ?_
            refine lv_goto (tgt := 55) hx hb dWh_subtract_51 (by decide) ?_
            refine lv_istore_n (lv' := [(2, .int (iI 1)), (5, .int (iI (((F9 i) - tt) - bw))), (4, .int (iI tt)), (3, .int (iI i)), (0, .ref a), (1, .ref b)]) hx hb dWh_subtract_55 rfl hl (by decide) rfl (fun ls hl => ?_)
            refine lv_aload_n hx hb dWh_subtract_56 rfl (lv_at hl 4 rfl) ?_
            refine va_get (D := (dC, dI)) (ci := 5) (v := .ref g) (C := "MacroReckoner$Whole") (T := TWh) (N := 2) hx hb hts inWh hown hK hP 0 rfl rfl 0 (by decide) (hts _ wt1_92) (fun _ h9 => h9) rfl dWh_subtract_57 ?_
            refine lv_iload_n hx hb dWh_subtract_60 rfl (lv_at hl 3 rfl) ?_
            refine lv_iload hx hb dWh_subtract_61 (lv_at hl 1 rfl) ?_
            refine lv_iload_n hx hb dWh_subtract_63 rfl (lv_at hl 0 rfl) ?_
            refine lv_ldc (v := iI 1000000000) hx hb hown ((by decide : (1000000000 : Int32) = iI 1000000000) ▸ hts _ wt3_82) dWh_subtract_64 ?_
            refine iv_imul hx hb dWh_subtract_66 ?_
            refine iv_iadd hx hb dWh_subtract_67 ?_
            refine iv_iast (v := (((F9 i) - tt) - bw) + (1 * 1000000000)) hx hb hK hP hD hS 1 0 rfl rfl (by decide) dWh_subtract_68 (by omega) (by omega) (fun H locs hP hD hS => ?_)
            have hP : va_P (dC, dI) vwCl (wWh dA a g (up F9 i ((((F9 i) - tt) - bw) + (1 * 1000000000))) u (wWh dA b h G v [])) H := hP
            have hD : va_D A (wWh dA a g (up F9 i ((((F9 i) - tt) - bw) + (1 * 1000000000))) u (wWh dA b h G v [])) := hD
            refine lv_iinc (k := 3) (lv' := [(3, .int (iI (i + 1))), (2, .int (iI 1)), (5, .int (iI (((F9 i) - tt) - bw))), (4, .int (iI tt)), (0, .ref a), (1, .ref b)]) (v := iI (i + 1)) hx hb dWh_subtract_69 hl rfl (iI_add _ _).symm (by decide) rfl (fun ls hl => ?_)
            refine lv_goto (tgt := 4) hx hb dWh_subtract_72 (by decide) ?_
            exact ih4 (up F9 i ((((F9 i) - tt) - bw) + (1 * 1000000000))) 1 (i + 1) H locs ls (by omega) (by exact sub_s hJ hdi htb.1 htb.2 (by omega)) (by omega) hP hD hS (lv_sub hl [0, 1, 4, 5] rfl)
        · refine lv_aload_n hx hb dWh_subtract_20 rfl (lv_at hl 3 rfl) ?_
          refine va_get (D := (dC, dI)) (ci := 5) (v := .ref h) (C := "MacroReckoner$Whole") (T := TWh) (N := 2) hx hb hts inWh hown hK hP 2 rfl rfl 0 (by decide) (hts _ wt1_92) (fun _ h9 => h9) rfl dWh_subtract_21 ?_
          refine lv_iload_n hx hb dWh_subtract_24 rfl (lv_at hl 0 rfl) ?_
          refine iv_iald hx hb hK hP 3 0 rfl rfl (by decide) dWh_subtract_25 (by omega) (by omega) ?_
          refine lv_goto (tgt := 30) hx hb dWh_subtract_26 (by decide) ?_
          refine lv_istore (lv' := [(4, .int (iI (G i))), (3, .int (iI i)), (2, .int (iI bw)), (0, .ref a), (1, .ref b)]) hx hb dWh_subtract_30 hl (by decide) rfl (fun ls hl => ?_)
          obtain ⟨tt, e_tt⟩ : ∃ z : Int, z = G i := ⟨_, rfl⟩
          rw [← e_tt] at hl
          have htb : tt = ze G v i ∧ 0 ≤ tt ∧ tt < 1000000000 := by rw [e_tt]; first | (rw [ze_in hc17]; exact ⟨rfl, hV.2.1 i (by omega) hc17⟩) | (rw [ze_out hc17]; omega)
          refine lv_aload_n hx hb dWh_subtract_32 rfl (lv_at hl 3 rfl) ?_
          refine va_get (D := (dC, dI)) (ci := 5) (v := .ref g) (C := "MacroReckoner$Whole") (T := TWh) (N := 2) hx hb hts inWh hown hK hP 0 rfl rfl 0 (by decide) (hts _ wt1_92) (fun _ h9 => h9) rfl dWh_subtract_33 ?_
          refine lv_iload_n hx hb dWh_subtract_36 rfl (lv_at hl 1 rfl) ?_
          refine iv_iald hx hb hK hP 1 0 rfl rfl (by decide) dWh_subtract_37 (by omega) (by omega) ?_
          refine lv_iload hx hb dWh_subtract_38 (lv_at hl 0 rfl) ?_
          refine iv_isub hx hb dWh_subtract_40 ?_
          refine lv_iload_n hx hb dWh_subtract_41 rfl (lv_at hl 2 rfl) ?_
          refine iv_isub hx hb dWh_subtract_42 ?_
          refine lv_istore (lv' := [(5, .int (iI (((F9 i) - tt) - bw))), (4, .int (iI tt)), (3, .int (iI i)), (2, .int (iI bw)), (0, .ref a), (1, .ref b)]) hx hb dWh_subtract_43 hl (by decide) rfl (fun ls hl => ?_)
          refine lv_iload hx hb dWh_subtract_45 (lv_at hl 0 rfl) ?_
          refine iv_if_ge (tgt := 54) hx hb dWh_subtract_47 (by decide) ⟨by omega, by omega⟩ (fun hc47 => ?_) (fun hc47 => ?_)
          · refine lv_iconst (v := iI 0) hx hb dWh_subtract_54 rfl ?_
            refine lv_istore_n (lv' := [(2, .int (iI 0)), (5, .int (iI (((F9 i) - tt) - bw))), (4, .int (iI tt)), (3, .int (iI i)), (0, .ref a), (1, .ref b)]) hx hb dWh_subtract_55 rfl hl (by decide) rfl (fun ls hl => ?_)
            refine lv_aload_n hx hb dWh_subtract_56 rfl (lv_at hl 4 rfl) ?_
            refine va_get (D := (dC, dI)) (ci := 5) (v := .ref g) (C := "MacroReckoner$Whole") (T := TWh) (N := 2) hx hb hts inWh hown hK hP 0 rfl rfl 0 (by decide) (hts _ wt1_92) (fun _ h9 => h9) rfl dWh_subtract_57 ?_
            refine lv_iload_n hx hb dWh_subtract_60 rfl (lv_at hl 3 rfl) ?_
            refine lv_iload hx hb dWh_subtract_61 (lv_at hl 1 rfl) ?_
            refine lv_iload_n hx hb dWh_subtract_63 rfl (lv_at hl 0 rfl) ?_
            refine lv_ldc (v := iI 1000000000) hx hb hown ((by decide : (1000000000 : Int32) = iI 1000000000) ▸ hts _ wt3_82) dWh_subtract_64 ?_
            refine iv_imul hx hb dWh_subtract_66 ?_
            refine iv_iadd hx hb dWh_subtract_67 ?_
            refine iv_iast (v := (((F9 i) - tt) - bw) + (0 * 1000000000)) hx hb hK hP hD hS 1 0 rfl rfl (by decide) dWh_subtract_68 (by omega) (by omega) (fun H locs hP hD hS => ?_)
            have hP : va_P (dC, dI) vwCl (wWh dA a g (up F9 i ((((F9 i) - tt) - bw) + (0 * 1000000000))) u (wWh dA b h G v [])) H := hP
            have hD : va_D A (wWh dA a g (up F9 i ((((F9 i) - tt) - bw) + (0 * 1000000000))) u (wWh dA b h G v [])) := hD
            refine lv_iinc (k := 3) (lv' := [(3, .int (iI (i + 1))), (2, .int (iI 0)), (5, .int (iI (((F9 i) - tt) - bw))), (4, .int (iI tt)), (0, .ref a), (1, .ref b)]) (v := iI (i + 1)) hx hb dWh_subtract_69 hl rfl (iI_add _ _).symm (by decide) rfl (fun ls hl => ?_)
            refine lv_goto (tgt := 4) hx hb dWh_subtract_72 (by decide) ?_
            exact ih4 (up F9 i ((((F9 i) - tt) - bw) + (0 * 1000000000))) 0 (i + 1) H locs ls (by omega) (by exact sub_s hJ hdi htb.1 htb.2 (by omega)) (by omega) hP hD hS (lv_sub hl [0, 1, 4, 5] rfl)
          · refine lv_iconst (v := iI 1) hx hb dWh_subtract_50 rfl ?_
            refine lv_goto (tgt := 55) hx hb dWh_subtract_51 (by decide) ?_
            refine lv_istore_n (lv' := [(2, .int (iI 1)), (5, .int (iI (((F9 i) - tt) - bw))), (4, .int (iI tt)), (3, .int (iI i)), (0, .ref a), (1, .ref b)]) hx hb dWh_subtract_55 rfl hl (by decide) rfl (fun ls hl => ?_)
            refine lv_aload_n hx hb dWh_subtract_56 rfl (lv_at hl 4 rfl) ?_
            refine va_get (D := (dC, dI)) (ci := 5) (v := .ref g) (C := "MacroReckoner$Whole") (T := TWh) (N := 2) hx hb hts inWh hown hK hP 0 rfl rfl 0 (by decide) (hts _ wt1_92) (fun _ h9 => h9) rfl dWh_subtract_57 ?_
            refine lv_iload_n hx hb dWh_subtract_60 rfl (lv_at hl 3 rfl) ?_
            refine lv_iload hx hb dWh_subtract_61 (lv_at hl 1 rfl) ?_
            refine lv_iload_n hx hb dWh_subtract_63 rfl (lv_at hl 0 rfl) ?_
            refine lv_ldc (v := iI 1000000000) hx hb hown ((by decide : (1000000000 : Int32) = iI 1000000000) ▸ hts _ wt3_82) dWh_subtract_64 ?_
            refine iv_imul hx hb dWh_subtract_66 ?_
            refine iv_iadd hx hb dWh_subtract_67 ?_
            refine iv_iast (v := (((F9 i) - tt) - bw) + (1 * 1000000000)) hx hb hK hP hD hS 1 0 rfl rfl (by decide) dWh_subtract_68 (by omega) (by omega) (fun H locs hP hD hS => ?_)
            have hP : va_P (dC, dI) vwCl (wWh dA a g (up F9 i ((((F9 i) - tt) - bw) + (1 * 1000000000))) u (wWh dA b h G v [])) H := hP
            have hD : va_D A (wWh dA a g (up F9 i ((((F9 i) - tt) - bw) + (1 * 1000000000))) u (wWh dA b h G v [])) := hD
            refine lv_iinc (k := 3) (lv' := [(3, .int (iI (i + 1))), (2, .int (iI 1)), (5, .int (iI (((F9 i) - tt) - bw))), (4, .int (iI tt)), (0, .ref a), (1, .ref b)]) (v := iI (i + 1)) hx hb dWh_subtract_69 hl rfl (iI_add _ _).symm (by decide) rfl (fun ls hl => ?_)
            refine lv_goto (tgt := 4) hx hb dWh_subtract_72 (by decide) ?_
            exact ih4 (up F9 i ((((F9 i) - tt) - bw) + (1 * 1000000000))) 1 (i + 1) H locs ls (by omega) (by exact sub_s hJ hdi htb.1 htb.2 (by omega)) (by omega) hP hD hS (lv_sub hl [0, 1, 4, 5] rfl)
  exact L4 _ F 0 0 H locs ls (by omega) (by exact sub_0) (Nat.lt_succ_self _) hP hD hS (lv_sub hl [0, 1, 2, 3] rfl)

theorem dWh_becomeProduct_0 : decode prog_7_method_16_code 0 = .ok (.aload_n 0, 1) := by decide +kernel
theorem dWh_becomeProduct_1 : decode prog_7_method_16_code 1 = .ok (.aload_n 1, 1) := by decide +kernel
theorem dWh_becomeProduct_2 : decode prog_7_method_16_code 2 = .ok (.getfield 13, 3) := by decide +kernel
theorem dWh_becomeProduct_5 : decode prog_7_method_16_code 5 = .ok (.aload_n 2, 1) := by decide +kernel
theorem dWh_becomeProduct_6 : decode prog_7_method_16_code 6 = .ok (.getfield 13, 3) := by decide +kernel
theorem dWh_becomeProduct_9 : decode prog_7_method_16_code 9 = .ok (.iadd, 1) := by decide +kernel
theorem dWh_becomeProduct_10 : decode prog_7_method_16_code 10 = .ok (.bipush 32, 2) := by decide +kernel
theorem dWh_becomeProduct_12 : decode prog_7_method_16_code 12 = .ok (.invokestatic 37, 3) := by decide +kernel
theorem dWh_becomeProduct_15 : decode prog_7_method_16_code 15 = .ok (.putfield 13, 3) := by decide +kernel
theorem dWh_becomeProduct_18 : decode prog_7_method_16_code 18 = .ok (.iconst 0, 1) := by decide +kernel
theorem dWh_becomeProduct_19 : decode prog_7_method_16_code 19 = .ok (.istore_n 3, 1) := by decide +kernel
theorem dWh_becomeProduct_20 : decode prog_7_method_16_code 20 = .ok (.iload_n 3, 1) := by decide +kernel
theorem dWh_becomeProduct_21 : decode prog_7_method_16_code 21 = .ok (.aload_n 0, 1) := by decide +kernel
theorem dWh_becomeProduct_22 : decode prog_7_method_16_code 22 = .ok (.getfield 13, 3) := by decide +kernel
theorem dWh_becomeProduct_25 : decode prog_7_method_16_code 25 = .ok (.if_icmp .ge 16, 3) := by decide +kernel
theorem dWh_becomeProduct_28 : decode prog_7_method_16_code 28 = .ok (.aload_n 0, 1) := by decide +kernel
theorem dWh_becomeProduct_29 : decode prog_7_method_16_code 29 = .ok (.getfield 9, 3) := by decide +kernel
theorem dWh_becomeProduct_32 : decode prog_7_method_16_code 32 = .ok (.iload_n 3, 1) := by decide +kernel
theorem dWh_becomeProduct_33 : decode prog_7_method_16_code 33 = .ok (.iconst 0, 1) := by decide +kernel
theorem dWh_becomeProduct_34 : decode prog_7_method_16_code 34 = .ok (.iastore, 1) := by decide +kernel
theorem dWh_becomeProduct_35 : decode prog_7_method_16_code 35 = .ok (.iinc 3 1, 3) := by decide +kernel
theorem dWh_becomeProduct_38 : decode prog_7_method_16_code 38 = .ok (.goto (-18), 3) := by decide +kernel
theorem dWh_becomeProduct_41 : decode prog_7_method_16_code 41 = .ok (.iconst 0, 1) := by decide +kernel
theorem dWh_becomeProduct_42 : decode prog_7_method_16_code 42 = .ok (.istore_n 3, 1) := by decide +kernel
theorem dWh_becomeProduct_43 : decode prog_7_method_16_code 43 = .ok (.iload_n 3, 1) := by decide +kernel
theorem dWh_becomeProduct_44 : decode prog_7_method_16_code 44 = .ok (.aload_n 1, 1) := by decide +kernel
theorem dWh_becomeProduct_45 : decode prog_7_method_16_code 45 = .ok (.getfield 13, 3) := by decide +kernel
theorem dWh_becomeProduct_48 : decode prog_7_method_16_code 48 = .ok (.if_icmp .ge 120, 3) := by decide +kernel
theorem dWh_becomeProduct_51 : decode prog_7_method_16_code 51 = .ok (.lconst 0, 1) := by decide +kernel
theorem dWh_becomeProduct_52 : decode prog_7_method_16_code 52 = .ok (.lstore 4, 2) := by decide +kernel
theorem dWh_becomeProduct_54 : decode prog_7_method_16_code 54 = .ok (.iconst 0, 1) := by decide +kernel
theorem dWh_becomeProduct_55 : decode prog_7_method_16_code 55 = .ok (.istore 6, 2) := by decide +kernel
theorem dWh_becomeProduct_57 : decode prog_7_method_16_code 57 = .ok (.iload 6, 2) := by decide +kernel
theorem dWh_becomeProduct_59 : decode prog_7_method_16_code 59 = .ok (.aload_n 2, 1) := by decide +kernel
theorem dWh_becomeProduct_60 : decode prog_7_method_16_code 60 = .ok (.getfield 13, 3) := by decide +kernel
theorem dWh_becomeProduct_63 : decode prog_7_method_16_code 63 = .ok (.if_icmp .ge 74, 3) := by decide +kernel
theorem dWh_becomeProduct_66 : decode prog_7_method_16_code 66 = .ok (.iload_n 3, 1) := by decide +kernel
theorem dWh_becomeProduct_67 : decode prog_7_method_16_code 67 = .ok (.iload 6, 2) := by decide +kernel
theorem dWh_becomeProduct_69 : decode prog_7_method_16_code 69 = .ok (.iadd, 1) := by decide +kernel
theorem dWh_becomeProduct_70 : decode prog_7_method_16_code 70 = .ok (.bipush 32, 2) := by decide +kernel
theorem dWh_becomeProduct_72 : decode prog_7_method_16_code 72 = .ok (.if_icmp .ge 65, 3) := by decide +kernel
theorem dWh_becomeProduct_75 : decode prog_7_method_16_code 75 = .ok (.lload 4, 2) := by decide +kernel
theorem dWh_becomeProduct_77 : decode prog_7_method_16_code 77 = .ok (.aload_n 0, 1) := by decide +kernel
theorem dWh_becomeProduct_78 : decode prog_7_method_16_code 78 = .ok (.getfield 9, 3) := by decide +kernel
theorem dWh_becomeProduct_81 : decode prog_7_method_16_code 81 = .ok (.iload_n 3, 1) := by decide +kernel
theorem dWh_becomeProduct_82 : decode prog_7_method_16_code 82 = .ok (.iload 6, 2) := by decide +kernel
theorem dWh_becomeProduct_84 : decode prog_7_method_16_code 84 = .ok (.iadd, 1) := by decide +kernel
theorem dWh_becomeProduct_85 : decode prog_7_method_16_code 85 = .ok (.iaload, 1) := by decide +kernel
theorem dWh_becomeProduct_86 : decode prog_7_method_16_code 86 = .ok (.i2l, 1) := by decide +kernel
theorem dWh_becomeProduct_87 : decode prog_7_method_16_code 87 = .ok (.aload_n 1, 1) := by decide +kernel
theorem dWh_becomeProduct_88 : decode prog_7_method_16_code 88 = .ok (.getfield 9, 3) := by decide +kernel
theorem dWh_becomeProduct_91 : decode prog_7_method_16_code 91 = .ok (.iload_n 3, 1) := by decide +kernel
theorem dWh_becomeProduct_92 : decode prog_7_method_16_code 92 = .ok (.iaload, 1) := by decide +kernel
theorem dWh_becomeProduct_93 : decode prog_7_method_16_code 93 = .ok (.i2l, 1) := by decide +kernel
theorem dWh_becomeProduct_94 : decode prog_7_method_16_code 94 = .ok (.aload_n 2, 1) := by decide +kernel
theorem dWh_becomeProduct_95 : decode prog_7_method_16_code 95 = .ok (.getfield 9, 3) := by decide +kernel
theorem dWh_becomeProduct_98 : decode prog_7_method_16_code 98 = .ok (.iload 6, 2) := by decide +kernel
theorem dWh_becomeProduct_100 : decode prog_7_method_16_code 100 = .ok (.iaload, 1) := by decide +kernel
theorem dWh_becomeProduct_101 : decode prog_7_method_16_code 101 = .ok (.i2l, 1) := by decide +kernel
theorem dWh_becomeProduct_102 : decode prog_7_method_16_code 102 = .ok (.lmul, 1) := by decide +kernel
theorem dWh_becomeProduct_103 : decode prog_7_method_16_code 103 = .ok (.ladd, 1) := by decide +kernel
theorem dWh_becomeProduct_104 : decode prog_7_method_16_code 104 = .ok (.ladd, 1) := by decide +kernel
theorem dWh_becomeProduct_105 : decode prog_7_method_16_code 105 = .ok (.lstore 4, 2) := by decide +kernel
theorem dWh_becomeProduct_107 : decode prog_7_method_16_code 107 = .ok (.aload_n 0, 1) := by decide +kernel
theorem dWh_becomeProduct_108 : decode prog_7_method_16_code 108 = .ok (.getfield 9, 3) := by decide +kernel
theorem dWh_becomeProduct_111 : decode prog_7_method_16_code 111 = .ok (.iload_n 3, 1) := by decide +kernel
theorem dWh_becomeProduct_112 : decode prog_7_method_16_code 112 = .ok (.iload 6, 2) := by decide +kernel
theorem dWh_becomeProduct_114 : decode prog_7_method_16_code 114 = .ok (.iadd, 1) := by decide +kernel
theorem dWh_becomeProduct_115 : decode prog_7_method_16_code 115 = .ok (.lload 4, 2) := by decide +kernel
theorem dWh_becomeProduct_117 : decode prog_7_method_16_code 117 = .ok (.ldc2_w 46, 3) := by decide +kernel
theorem dWh_becomeProduct_120 : decode prog_7_method_16_code 120 = .ok (.lrem, 1) := by decide +kernel
theorem dWh_becomeProduct_121 : decode prog_7_method_16_code 121 = .ok (.l2i, 1) := by decide +kernel
theorem dWh_becomeProduct_122 : decode prog_7_method_16_code 122 = .ok (.iastore, 1) := by decide +kernel
theorem dWh_becomeProduct_123 : decode prog_7_method_16_code 123 = .ok (.lload 4, 2) := by decide +kernel
theorem dWh_becomeProduct_125 : decode prog_7_method_16_code 125 = .ok (.ldc2_w 46, 3) := by decide +kernel
theorem dWh_becomeProduct_128 : decode prog_7_method_16_code 128 = .ok (.ldiv, 1) := by decide +kernel
theorem dWh_becomeProduct_129 : decode prog_7_method_16_code 129 = .ok (.lstore 4, 2) := by decide +kernel
theorem dWh_becomeProduct_131 : decode prog_7_method_16_code 131 = .ok (.iinc 6 1, 3) := by decide +kernel
theorem dWh_becomeProduct_134 : decode prog_7_method_16_code 134 = .ok (.goto (-77), 3) := by decide +kernel
theorem dWh_becomeProduct_137 : decode prog_7_method_16_code 137 = .ok (.iload_n 3, 1) := by decide +kernel
theorem dWh_becomeProduct_138 : decode prog_7_method_16_code 138 = .ok (.aload_n 2, 1) := by decide +kernel
theorem dWh_becomeProduct_139 : decode prog_7_method_16_code 139 = .ok (.getfield 13, 3) := by decide +kernel
theorem dWh_becomeProduct_142 : decode prog_7_method_16_code 142 = .ok (.iadd, 1) := by decide +kernel
theorem dWh_becomeProduct_143 : decode prog_7_method_16_code 143 = .ok (.bipush 32, 2) := by decide +kernel
theorem dWh_becomeProduct_145 : decode prog_7_method_16_code 145 = .ok (.if_icmp .ge 17, 3) := by decide +kernel
theorem dWh_becomeProduct_148 : decode prog_7_method_16_code 148 = .ok (.aload_n 0, 1) := by decide +kernel
theorem dWh_becomeProduct_149 : decode prog_7_method_16_code 149 = .ok (.getfield 9, 3) := by decide +kernel
theorem dWh_becomeProduct_152 : decode prog_7_method_16_code 152 = .ok (.iload_n 3, 1) := by decide +kernel
theorem dWh_becomeProduct_153 : decode prog_7_method_16_code 153 = .ok (.aload_n 2, 1) := by decide +kernel
theorem dWh_becomeProduct_154 : decode prog_7_method_16_code 154 = .ok (.getfield 13, 3) := by decide +kernel
theorem dWh_becomeProduct_157 : decode prog_7_method_16_code 157 = .ok (.iadd, 1) := by decide +kernel
theorem dWh_becomeProduct_158 : decode prog_7_method_16_code 158 = .ok (.lload 4, 2) := by decide +kernel
theorem dWh_becomeProduct_160 : decode prog_7_method_16_code 160 = .ok (.l2i, 1) := by decide +kernel
theorem dWh_becomeProduct_161 : decode prog_7_method_16_code 161 = .ok (.iastore, 1) := by decide +kernel
theorem dWh_becomeProduct_162 : decode prog_7_method_16_code 162 = .ok (.iinc 3 1, 3) := by decide +kernel
theorem dWh_becomeProduct_165 : decode prog_7_method_16_code 165 = .ok (.goto (-122), 3) := by decide +kernel
theorem dWh_becomeProduct_168 : decode prog_7_method_16_code 168 = .ok (.aload_n 0, 1) := by decide +kernel
theorem dWh_becomeProduct_169 : decode prog_7_method_16_code 169 = .ok (.invokevirtual 48, 3) := by decide +kernel
theorem dWh_becomeProduct_172 : decode prog_7_method_16_code 172 = .ok (.return_, 1) := by decide +kernel
abbrev qWh_becomeProduct (dC : Nat → ClassId) (dI : Nat → Nat → Nat) (dA : Nat → ClassId) (a : Nat) (g : Nat) (F : Int → Int) (u : Int) (b : Nat) (h : Nat) (G : Int → Int) (v : Int) (M : Int) (b2 : Nat) (h2 : Nat) (G2 : Int → Int) (v2 : Int) (M2 : Int) (A : Nat → Prop) : Array Value → State → Outcome → State → Prop := QV (dC, dI) vwCl (tyA dA) (fun (v_ : (Int → Int) × Int) => WR v_.1 v_.2 (M * M2)) (fun (v_ : (Int → Int) × Int) => wWh dA a g v_.1 v_.2 (wWh dA b h G v (wWh dA b2 h2 G2 v2 []))) A
abbrev rmWh_becomeProduct : Room := { frames := 1, cells := 0, slots := 0, locals := 20 }
set_option maxRecDepth 100000 in
set_option maxHeartbeats 1000000 in
theorem cWh_becomeProduct (l : Launch) (dC : Nat → ClassId) (dI : Nat → Nat → Nat) (dA : Nat → ClassId) (a : Nat) (g : Nat) (F : Int → Int) (u : Int) (b : Nat) (h : Nat) (G : Int → Int) (v : Int) (M : Int) (b2 : Nat) (h2 : Nat) (G2 : Int → Int) (v2 : Int) (M2 : Int) (hV : WR G v M) (hV2 : WR G2 v2 M2) (hsz : v + v2 ≤ 32) (sz : Nat) : Met l yWh_becomeProduct wsWh_becomeProduct rmWh_becomeProduct (PC (dC, dI) vwCl (tyA dA) XN [.ref a, .ref b, .ref b2] (wWh dA a g F u (wWh dA b h G v (wWh dA b2 h2 G2 v2 []))) sz) (qWh_becomeProduct dC dI dA a g F u b h G v M b2 h2 G2 v2 M2 (va_A (wWh dA a g F u (wWh dA b h G v (wWh dA b2 h2 G2 v2 []))) sz)) 0 0 (va_A (wWh dA a g F u (wWh dA b h G v (wWh dA b2 h2 G2 v2 []))) sz) := by
  refine met_of (cc := prog_7_method_16_code) (maxL := 7) (ret := none) (Qc := qWh_becomeProduct dC dI dA a g F u b h G v M b2 h2 G2 v2 M2) XN_ok (by decide) rfl (Nat.le_of_ble_eq_true rfl) ?_
  intro p e s m below meth c ls A hx hb hr hml hown hts hlocks hnm hK hP hD hA hX hS hl
  have hl : lv_has ls 7 [(0, .ref a), (1, .ref b), (2, .ref b2)] := hl
  have hown : s.vm.findClass "MacroReckoner$Whole" = some m.cls := hown
  obtain ⟨H, hH⟩ : ∃ H : Heap, H = s.heap := ⟨_, rfl⟩
  obtain ⟨locs, hlo⟩ : ∃ L : List Loc, L = [] := ⟨_, rfl⟩
  have hP : va_P (dC, dI) vwCl (wWh dA a g F u (wWh dA b h G v (wWh dA b2 h2 G2 v2 []))) H := hH ▸ hP
  have hS : va_S A s.heap H locs := by rw [hH, hlo]; exact hS
  suffices hgo : W p l e rmWh_becomeProduct s m [.ref a, .ref b, .ref b2].toArray below meth c H locs 0 0 (MQ below (qWh_becomeProduct dC dI dA a g F u b h G v M b2 h2 G2 v2 M2 A) [.ref a, .ref b, .ref b2].toArray s 0 0 A) (F0 m 0 ls []) by rw [hH, hlo] at hgo; exact hgo
  clear hH hlo
  have hv := hV.1
  have hv2 := hV2.1
  refine lv_aload_n hx hb dWh_becomeProduct_0 rfl (lv_at hl 0 rfl) ?_
  refine lv_aload_n hx hb dWh_becomeProduct_1 rfl (lv_at hl 1 rfl) ?_
  refine va_get (D := (dC, dI)) (ci := 5) (v := .int (iI v)) (C := "MacroReckoner$Whole") (T := TWh) (N := 2) hx hb hts inWh hown hK hP 2 rfl rfl 1 (by decide) (hts _ wt1_93) (fun _ h9 => h9) rfl dWh_becomeProduct_2 ?_
  refine lv_aload_n hx hb dWh_becomeProduct_5 rfl (lv_at hl 2 rfl) ?_
  refine va_get (D := (dC, dI)) (ci := 5) (v := .int (iI v2)) (C := "MacroReckoner$Whole") (T := TWh) (N := 2) hx hb hts inWh hown hK hP 4 rfl rfl 1 (by decide) (hts _ wt1_93) (fun _ h9 => h9) rfl dWh_becomeProduct_6 ?_
  refine iv_iadd hx hb dWh_becomeProduct_9 ?_
  refine lv_bipush (v := iI 32) hx hb dWh_becomeProduct_10 (by decide) ?_
  refine iv_mmin hx hb (hml.trans hl.1.symm) hown (hts _ wt3_113) (hts _ wt2_181) (hts _ wt1_16) (hts _ wt2_182) (by decide) (Nat.le_of_ble_eq_true rfl) (Nat.zero_le _) (Nat.zero_le _) dWh_becomeProduct_12 ⟨by omega, by omega⟩ ⟨by decide, by decide⟩ ?_
  refine va_put (D := (dC, dI)) (ci := 5) (v := .int (iI (min (v + v2) 32))) (ty := .int) (C := "MacroReckoner$Whole") (T := TWh) (N := 2) hx hb hts inWh tyWh tyWh_ok nmWh hown hK hP hD hS 0 rfl rfl 1 (by decide) (hts _ wt1_93) (fun _ h9 => h9) rfl (by decide +kernel) rfl rfl (Nat.le_of_ble_eq_true rfl) dWh_becomeProduct_15 (fun H locs hP hD hS => ?_)
  have hP : va_P (dC, dI) vwCl (wWh dA a g F (min (v + v2) 32) (wWh dA b h G v (wWh dA b2 h2 G2 v2 []))) H := hP
  have hD : va_D A (wWh dA a g F (min (v + v2) 32) (wWh dA b h G v (wWh dA b2 h2 G2 v2 []))) := hD
  refine lv_iconst (v := iI 0) hx hb dWh_becomeProduct_18 rfl ?_
  refine lv_istore_n (lv' := [(3, .int (iI 0)), (0, .ref a), (1, .ref b), (2, .ref b2)]) hx hb dWh_becomeProduct_19 rfl hl (by decide) rfl (fun ls hl => ?_)
  have L20 : ∀ (n : Nat) (F9 : Int → Int) (i : Int) (H : Heap) (locs : List Loc) (ls : Array Slot), (0 ≤ i ∧ i ≤ min (v + v2) 32) → (∀ j, 0 ≤ j → j < i → F9 j = 0) → (min (v + v2) 32 - i).toNat < n → va_P (dC, dI) vwCl (wWh dA a g F9 (min (v + v2) 32) (wWh dA b h G v (wWh dA b2 h2 G2 v2 []))) H → va_D A (wWh dA a g F9 (min (v + v2) 32) (wWh dA b h G v (wWh dA b2 h2 G2 v2 []))) → va_S A s.heap H locs → lv_has ls 7 [(3, .int (iI i)), (0, .ref a), (1, .ref b), (2, .ref b2)] → W p l e rmWh_becomeProduct s m [.ref a, .ref b, .ref b2].toArray below meth c H locs 0 0 (MQ below (qWh_becomeProduct dC dI dA a g F u b h G v M b2 h2 G2 v2 M2 A) [.ref a, .ref b, .ref b2].toArray s 0 0 A) (F0 m 20 ls []) := by
    intro n
    induction n with
    | zero => intro F9 i H locs ls hi hj1 hn; omega
    | succ n ih =>
      intro F9 i H locs ls hi hj1 hn hP hD hS hl
      have ih20 := ih
      refine lv_iload_n hx hb dWh_becomeProduct_20 rfl (lv_at hl 0 rfl) ?_
      refine lv_aload_n hx hb dWh_becomeProduct_21 rfl (lv_at hl 1 rfl) ?_
      refine va_get (D := (dC, dI)) (ci := 5) (v := .int (iI ((min (v + v2) 32)))) (C := "MacroReckoner$Whole") (T := TWh) (N := 2) hx hb hts inWh hown hK hP 0 rfl rfl 1 (by decide) (hts _ wt1_93) (fun _ h9 => h9) rfl dWh_becomeProduct_22 ?_
      refine iv_icmp_ge (tgt := 41) hx hb dWh_becomeProduct_25 (by decide) ⟨by omega, by omega⟩ ⟨by omega, by omega⟩ (fun hc25 => ?_) (fun hc25 => ?_)
      · refine lv_iconst (v := iI 0) hx hb dWh_becomeProduct_41 rfl ?_
        refine lv_istore_n (lv' := [(3, .int (iI 0)), (0, .ref a), (1, .ref b), (2, .ref b2)]) hx hb dWh_becomeProduct_42 rfl hl (by decide) rfl (fun ls hl => ?_)
        have L43 : ∀ (n : Nat) (F8 : Int → Int) (i : Int) (H : Heap) (locs : List Loc) (ls : Array Slot), (i ≤ v) → (prJ G G2 (min (v + v2) 32) v2 M2 F8 i 0 0) → (v - i).toNat < n → va_P (dC, dI) vwCl (wWh dA a g F8 (min (v + v2) 32) (wWh dA b h G v (wWh dA b2 h2 G2 v2 []))) H → va_D A (wWh dA a g F8 (min (v + v2) 32) (wWh dA b h G v (wWh dA b2 h2 G2 v2 []))) → va_S A s.heap H locs → lv_has ls 7 [(3, .int (iI i)), (0, .ref a), (1, .ref b), (2, .ref b2)] → W p l e rmWh_becomeProduct s m [.ref a, .ref b, .ref b2].toArray below meth c H locs 0 0 (MQ below (qWh_becomeProduct dC dI dA a g F u b h G v M b2 h2 G2 v2 M2 A) [.ref a, .ref b, .ref b2].toArray s 0 0 A) (F0 m 43 ls []) := by
          intro n
          induction n with
          | zero => intro F8 i H locs ls hi hJ0 hn; omega
          | succ n ih =>
            intro F8 i H locs ls hi hJ0 hn hP hD hS hl
            have hi0 := hJ0.1
            have ih43 := ih
            refine lv_iload_n hx hb dWh_becomeProduct_43 rfl (lv_at hl 0 rfl) ?_
            refine lv_aload_n hx hb dWh_becomeProduct_44 rfl (lv_at hl 2 rfl) ?_
            refine va_get (D := (dC, dI)) (ci := 5) (v := .int (iI v)) (C := "MacroReckoner$Whole") (T := TWh) (N := 2) hx hb hts inWh hown hK hP 2 rfl rfl 1 (by decide) (hts _ wt1_93) (fun _ h9 => h9) rfl dWh_becomeProduct_45 ?_
            refine iv_icmp_ge (tgt := 168) hx hb dWh_becomeProduct_48 (by decide) ⟨by omega, by omega⟩ ⟨by omega, by omega⟩ (fun hc48 => ?_) (fun hc48 => ?_)
            · refine lv_aload_n hx hb dWh_becomeProduct_168 rfl (lv_at hl 1 rfl) ?_
              refine cv_v (va_runV (C := "MacroReckoner$Whole") (As := []) (rest := []) ⟨hx, hb, hml, hown, hts⟩ (cWh_trim l dC dI dA a g F8 ((min (v + v2) 32)) (M * M2) (by exact pr_e hJ0 (by omega) hV.2.2.2 (by omega)) H.size) (cwV 0 hts (gdV wt3_100 wt3_102 ws2_1 wt1_5 wt3_103) rfl rfl rfl ⟨rfl, by decide, by decide, by decide +kernel⟩ ⟨by decide, by decide⟩) (preV (q := ("MacroReckoner$Whole", TWh, 2)) hK hP hD hS hA XN_ok trivial [0, 1] rfl rfl 0 rfl rfl) rfl rfl hl.1 rfl (lv_room (Nat.le_of_ble_eq_true rfl)) dWh_becomeProduct_169 ⟨Nat.zero_le _, Nat.zero_le _⟩) hP hD hS hA [0, 1] [2, 3, 4, 5] rfl (fun v_ => wWh dA a g F8 v_ (wWh dA b h G v (wWh dA b2 h2 G2 v2 []))) (fun _ => rfl) (wWh dA b h G v (wWh dA b2 h2 G2 v2 [])) rfl (fun _ => rfl) [a, g, b, h, b2, h2] rfl (fun _ => rfl) (fun _ => rfl) (fun u_ H locs hq169 hP hD hS => ?_)
              obtain ⟨u1_169, rfl⟩ : ∃ z, z = u_ := ⟨_, rfl⟩
              have hP : va_P (dC, dI) vwCl (wWh dA a g F8 u1_169 (wWh dA b h G v (wWh dA b2 h2 G2 v2 []))) H := hP
              have hD : va_D A (wWh dA a g F8 u1_169 (wWh dA b h G v (wWh dA b2 h2 G2 v2 []))) := hD
              have hq169 : WR F8 u1_169 (M * M2) := hq169
              exact rt_v hx hb hr hlocks hK hS dWh_becomeProduct_172 (F8, u1_169) hP hD (show WR F8 u1_169 (M * M2) from by exact hq169)
            · refine lv_lconst (v := iL 0) hx hb dWh_becomeProduct_51 rfl ?_
              refine lv_lstore (lv' := [(4, .long (iL 0)), (3, .int (iI i)), (0, .ref a), (1, .ref b), (2, .ref b2)]) hx hb dWh_becomeProduct_52 hl (by decide) rfl (fun ls hl => ?_)
              refine lv_iconst (v := iI 0) hx hb dWh_becomeProduct_54 rfl ?_
              refine lv_istore (lv' := [(6, .int (iI 0)), (4, .long (iL 0)), (3, .int (iI i)), (0, .ref a), (1, .ref b), (2, .ref b2)]) hx hb dWh_becomeProduct_55 hl (by decide) rfl (fun ls hl => ?_)
              have L57 : ∀ (n : Nat) (F7 : Int → Int) (j : Int) (cy : Int) (H : Heap) (locs : List Loc) (ls : Array Slot), (j ≤ v2) → (prJ G G2 (min (v + v2) 32) v2 M2 F7 i j cy) → (v2 - j).toNat < n → va_P (dC, dI) vwCl (wWh dA a g F7 (min (v + v2) 32) (wWh dA b h G v (wWh dA b2 h2 G2 v2 []))) H → va_D A (wWh dA a g F7 (min (v + v2) 32) (wWh dA b h G v (wWh dA b2 h2 G2 v2 []))) → va_S A s.heap H locs → lv_has ls 7 [(6, .int (iI j)), (4, .long (iL cy)), (3, .int (iI i)), (0, .ref a), (1, .ref b), (2, .ref b2)] → W p l e rmWh_becomeProduct s m [.ref a, .ref b, .ref b2].toArray below meth c H locs 0 0 (MQ below (qWh_becomeProduct dC dI dA a g F u b h G v M b2 h2 G2 v2 M2 A) [.ref a, .ref b, .ref b2].toArray s 0 0 A) (F0 m 57 ls []) := by
                intro n
                induction n with
                | zero => intro F7 j cy H locs ls hj9 hJ hn; omega
                | succ n ih =>
                  intro F7 j cy H locs ls hj9 hJ hn hP hD hS hl
                  have hj0 := hJ.2.1
                  have hcy := hJ.2.2.1
                  have hcy2 := hJ.2.2.2.1
                  have ih57 := ih
                  refine lv_iload hx hb dWh_becomeProduct_57 (lv_at hl 0 rfl) ?_
                  refine lv_aload_n hx hb dWh_becomeProduct_59 rfl (lv_at hl 5 rfl) ?_
                  refine va_get (D := (dC, dI)) (ci := 5) (v := .int (iI v2)) (C := "MacroReckoner$Whole") (T := TWh) (N := 2) hx hb hts inWh hown hK hP 4 rfl rfl 1 (by decide) (hts _ wt1_93) (fun _ h9 => h9) rfl dWh_becomeProduct_60 ?_
                  refine iv_icmp_ge (tgt := 137) hx hb dWh_becomeProduct_63 (by decide) ⟨by omega, by omega⟩ ⟨by omega, by omega⟩ (fun hc63 => ?_) (fun hc63 => ?_)
                  · refine lv_iload_n hx hb dWh_becomeProduct_137 rfl (lv_at hl 2 rfl) ?_
                    refine lv_aload_n hx hb dWh_becomeProduct_138 rfl (lv_at hl 5 rfl) ?_
                    refine va_get (D := (dC, dI)) (ci := 5) (v := .int (iI v2)) (C := "MacroReckoner$Whole") (T := TWh) (N := 2) hx hb hts inWh hown hK hP 4 rfl rfl 1 (by decide) (hts _ wt1_93) (fun _ h9 => h9) rfl dWh_becomeProduct_139 ?_
                    refine iv_iadd hx hb dWh_becomeProduct_142 ?_
                    refine lv_bipush (v := iI 32) hx hb dWh_becomeProduct_143 (by decide) ?_
                    refine iv_icmp_ge (tgt := 162) hx hb dWh_becomeProduct_145 (by decide) ⟨by omega, by omega⟩ ⟨by decide, by decide⟩ (fun hc145 => absurd hc145 (by omega)) (fun hc145 => ?_)
                    refine lv_aload_n hx hb dWh_becomeProduct_148 rfl (lv_at hl 3 rfl) ?_
                    refine va_get (D := (dC, dI)) (ci := 5) (v := .ref g) (C := "MacroReckoner$Whole") (T := TWh) (N := 2) hx hb hts inWh hown hK hP 0 rfl rfl 0 (by decide) (hts _ wt1_92) (fun _ h9 => h9) rfl dWh_becomeProduct_149 ?_
                    refine lv_iload_n hx hb dWh_becomeProduct_152 rfl (lv_at hl 2 rfl) ?_
                    refine lv_aload_n hx hb dWh_becomeProduct_153 rfl (lv_at hl 5 rfl) ?_
                    refine va_get (D := (dC, dI)) (ci := 5) (v := .int (iI v2)) (C := "MacroReckoner$Whole") (T := TWh) (N := 2) hx hb hts inWh hown hK hP 4 rfl rfl 1 (by decide) (hts _ wt1_93) (fun _ h9 => h9) rfl dWh_becomeProduct_154 ?_
                    refine iv_iadd hx hb dWh_becomeProduct_157 ?_
                    refine lv_lload hx hb dWh_becomeProduct_158 (lv_at hl 1 rfl) ?_
                    refine iv_l2i hx hb dWh_becomeProduct_160 ?_
                    refine iv_iast (v := cy) hx hb hK hP hD hS 1 0 rfl rfl (by decide) dWh_becomeProduct_161 (by omega) (by omega) (fun H locs hP hD hS => ?_)
                    have hP : va_P (dC, dI) vwCl (wWh dA a g (up F7 (i + v2) cy) (min (v + v2) 32) (wWh dA b h G v (wWh dA b2 h2 G2 v2 []))) H := hP
                    have hD : va_D A (wWh dA a g (up F7 (i + v2) cy) (min (v + v2) 32) (wWh dA b h G v (wWh dA b2 h2 G2 v2 []))) := hD
                    refine lv_iinc (k := 2) (lv' := [(3, .int (iI (i + 1))), (6, .int (iI j)), (4, .long (iL cy)), (0, .ref a), (1, .ref b), (2, .ref b2)]) (v := iI (i + 1)) hx hb dWh_becomeProduct_162 hl rfl (iI_add _ _).symm (by decide) rfl (fun ls hl => ?_)
                    refine lv_goto (tgt := 43) hx hb dWh_becomeProduct_165 (by decide) ?_
                    exact ih43 (up F7 (i + v2) cy) (i + 1) H locs ls (by omega) (by exact pr_n hJ (by omega) hV2.2.2.2 (by omega) hv2.1) (by omega) hP hD hS (lv_sub hl [0, 3, 4, 5] rfl)
                  · refine lv_iload_n hx hb dWh_becomeProduct_66 rfl (lv_at hl 2 rfl) ?_
                    refine lv_iload hx hb dWh_becomeProduct_67 (lv_at hl 0 rfl) ?_
                    refine iv_iadd hx hb dWh_becomeProduct_69 ?_
                    refine lv_bipush (v := iI 32) hx hb dWh_becomeProduct_70 (by decide) ?_
                    refine iv_icmp_ge (tgt := 137) hx hb dWh_becomeProduct_72 (by decide) ⟨by omega, by omega⟩ ⟨by decide, by decide⟩ (fun hc72 => absurd hc72 (by omega)) (fun hc72 => ?_)
                    have hpi := hV.2.1 i (by omega) (by omega)
                    have hqj := hV2.2.1 j (by omega) (by omega)
                    have hx9 := pr_x hJ (show i + j < min (v + v2) 32 by omega) hpi hqj
                    have hfi := hJ.2.2.2.2.1 (i + j) (by omega) (by omega)
                    refine lv_lload hx hb dWh_becomeProduct_75 (lv_at hl 1 rfl) ?_
                    refine lv_aload_n hx hb dWh_becomeProduct_77 rfl (lv_at hl 3 rfl) ?_
                    refine va_get (D := (dC, dI)) (ci := 5) (v := .ref g) (C := "MacroReckoner$Whole") (T := TWh) (N := 2) hx hb hts inWh hown hK hP 0 rfl rfl 0 (by decide) (hts _ wt1_92) (fun _ h9 => h9) rfl dWh_becomeProduct_78 ?_
                    refine lv_iload_n hx hb dWh_becomeProduct_81 rfl (lv_at hl 2 rfl) ?_
                    refine lv_iload hx hb dWh_becomeProduct_82 (lv_at hl 0 rfl) ?_
                    refine iv_iadd hx hb dWh_becomeProduct_84 ?_
                    refine iv_iald hx hb hK hP 1 0 rfl rfl (by decide) dWh_becomeProduct_85 (by omega) (by omega) ?_
                    refine iv_i2l hx hb dWh_becomeProduct_86 ⟨by omega, by omega⟩ ?_
                    refine lv_aload_n hx hb dWh_becomeProduct_87 rfl (lv_at hl 4 rfl) ?_
                    refine va_get (D := (dC, dI)) (ci := 5) (v := .ref h) (C := "MacroReckoner$Whole") (T := TWh) (N := 2) hx hb hts inWh hown hK hP 2 rfl rfl 0 (by decide) (hts _ wt1_92) (fun _ h9 => h9) rfl dWh_becomeProduct_88 ?_
                    refine lv_iload_n hx hb dWh_becomeProduct_91 rfl (lv_at hl 2 rfl) ?_
                    refine iv_iald hx hb hK hP 3 0 rfl rfl (by decide) dWh_becomeProduct_92 (by omega) (by omega) ?_
                    refine iv_i2l hx hb dWh_becomeProduct_93 ⟨by omega, by omega⟩ ?_
                    refine lv_aload_n hx hb dWh_becomeProduct_94 rfl (lv_at hl 5 rfl) ?_
                    refine va_get (D := (dC, dI)) (ci := 5) (v := .ref h2) (C := "MacroReckoner$Whole") (T := TWh) (N := 2) hx hb hts inWh hown hK hP 4 rfl rfl 0 (by decide) (hts _ wt1_92) (fun _ h9 => h9) rfl dWh_becomeProduct_95 ?_
                    refine lv_iload hx hb dWh_becomeProduct_98 (lv_at hl 0 rfl) ?_
                    refine iv_iald hx hb hK hP 5 0 rfl rfl (by decide) dWh_becomeProduct_100 (by omega) (by omega) ?_
                    refine iv_i2l hx hb dWh_becomeProduct_101 ⟨by omega, by omega⟩ ?_
                    refine iv_lmul hx hb dWh_becomeProduct_102 ?_
                    refine iv_ladd hx hb dWh_becomeProduct_103 ?_
                    refine iv_ladd hx hb dWh_becomeProduct_104 ?_
                    refine lv_lstore (lv' := [(4, .long (iL (cy + ((F7 (i + j)) + ((G i) * (G2 j)))))), (6, .int (iI j)), (3, .int (iI i)), (0, .ref a), (1, .ref b), (2, .ref b2)]) hx hb dWh_becomeProduct_105 hl (by decide) rfl (fun ls hl => ?_)
                    refine lv_aload_n hx hb dWh_becomeProduct_107 rfl (lv_at hl 3 rfl) ?_
                    refine va_get (D := (dC, dI)) (ci := 5) (v := .ref g) (C := "MacroReckoner$Whole") (T := TWh) (N := 2) hx hb hts inWh hown hK hP 0 rfl rfl 0 (by decide) (hts _ wt1_92) (fun _ h9 => h9) rfl dWh_becomeProduct_108 ?_
                    refine lv_iload_n hx hb dWh_becomeProduct_111 rfl (lv_at hl 2 rfl) ?_
                    refine lv_iload hx hb dWh_becomeProduct_112 (lv_at hl 1 rfl) ?_
                    refine iv_iadd hx hb dWh_becomeProduct_114 ?_
                    refine lv_lload hx hb dWh_becomeProduct_115 (lv_at hl 0 rfl) ?_
                    refine lv_ldc2 (v := iL 1000000000) hx hb hown ((by decide : (1000000000 : Int64) = iL 1000000000) ▸ hts _ wt3_21) dWh_becomeProduct_117 ?_
                    refine iv_lrem hx hb dWh_becomeProduct_120 (by omega) ⟨by omega, by omega⟩ (by omega) ⟨by decide, by decide⟩ ?_
                    refine iv_l2i hx hb dWh_becomeProduct_121 ?_
                    refine iv_iast (v := (cy + ((F7 (i + j)) + ((G i) * (G2 j)))) % 1000000000) hx hb hK hP hD hS 1 0 rfl rfl (by decide) dWh_becomeProduct_122 (by omega) (by omega) (fun H locs hP hD hS => ?_)
                    have hP : va_P (dC, dI) vwCl (wWh dA a g (up F7 (i + j) ((cy + ((F7 (i + j)) + ((G i) * (G2 j)))) % 1000000000)) (min (v + v2) 32) (wWh dA b h G v (wWh dA b2 h2 G2 v2 []))) H := hP
                    have hD : va_D A (wWh dA a g (up F7 (i + j) ((cy + ((F7 (i + j)) + ((G i) * (G2 j)))) % 1000000000)) (min (v + v2) 32) (wWh dA b h G v (wWh dA b2 h2 G2 v2 []))) := hD
                    refine lv_lload hx hb dWh_becomeProduct_123 (lv_at hl 0 rfl) ?_
                    refine lv_ldc2 (v := iL 1000000000) hx hb hown ((by decide : (1000000000 : Int64) = iL 1000000000) ▸ hts _ wt3_21) dWh_becomeProduct_125 ?_
                    refine iv_ldiv hx hb dWh_becomeProduct_128 (by omega) ⟨by omega, by omega⟩ (by omega) ⟨by decide, by decide⟩ ?_
                    refine lv_lstore (lv' := [(4, .long (iL ((cy + ((F7 (i + j)) + ((G i) * (G2 j)))) / 1000000000))), (6, .int (iI j)), (3, .int (iI i)), (0, .ref a), (1, .ref b), (2, .ref b2)]) hx hb dWh_becomeProduct_129 hl (by decide) rfl (fun ls hl => ?_)
                    refine lv_iinc (k := 1) (lv' := [(6, .int (iI (j + 1))), (4, .long (iL ((cy + ((F7 (i + j)) + ((G i) * (G2 j)))) / 1000000000))), (3, .int (iI i)), (0, .ref a), (1, .ref b), (2, .ref b2)]) (v := iI (j + 1)) hx hb dWh_becomeProduct_131 hl rfl (iI_add _ _).symm (by decide) rfl (fun ls hl => ?_)
                    refine lv_goto (tgt := 57) hx hb dWh_becomeProduct_134 (by decide) ?_
                    exact ih57 (up F7 (i + j) ((cy + ((F7 (i + j)) + ((G i) * (G2 j)))) % 1000000000)) (j + 1) ((cy + ((F7 (i + j)) + ((G i) * (G2 j)))) / 1000000000) H locs ls (by omega) (by exact pr_s hJ (by omega) hc63 hpi hqj) (by omega) hP hD hS (lv_sub hl [0, 1, 2, 3, 4, 5] rfl)
              exact L57 _ F8 0 0 H locs ls (by omega) (by exact hJ0) (Nat.lt_succ_self _) hP hD hS (lv_sub hl [0, 1, 2, 3, 4, 5] rfl)
        exact L43 _ F9 0 H locs ls (by omega) (by exact pr_0 (by omega) (fun j x y => hj1 j x (by omega)) hv2.1) (Nat.lt_succ_self _) hP hD hS (lv_sub hl [0, 1, 2, 3] rfl)
      · refine lv_aload_n hx hb dWh_becomeProduct_28 rfl (lv_at hl 1 rfl) ?_
        refine va_get (D := (dC, dI)) (ci := 5) (v := .ref g) (C := "MacroReckoner$Whole") (T := TWh) (N := 2) hx hb hts inWh hown hK hP 0 rfl rfl 0 (by decide) (hts _ wt1_92) (fun _ h9 => h9) rfl dWh_becomeProduct_29 ?_
        refine lv_iload_n hx hb dWh_becomeProduct_32 rfl (lv_at hl 0 rfl) ?_
        refine lv_iconst (v := iI 0) hx hb dWh_becomeProduct_33 rfl ?_
        refine iv_iast (v := 0) hx hb hK hP hD hS 1 0 rfl rfl (by decide) dWh_becomeProduct_34 (by omega) (by omega) (fun H locs hP hD hS => ?_)
        have hP : va_P (dC, dI) vwCl (wWh dA a g (up F9 i 0) (min (v + v2) 32) (wWh dA b h G v (wWh dA b2 h2 G2 v2 []))) H := hP
        have hD : va_D A (wWh dA a g (up F9 i 0) (min (v + v2) 32) (wWh dA b h G v (wWh dA b2 h2 G2 v2 []))) := hD
        refine lv_iinc (k := 0) (lv' := [(3, .int (iI (i + 1))), (0, .ref a), (1, .ref b), (2, .ref b2)]) (v := iI (i + 1)) hx hb dWh_becomeProduct_35 hl rfl (iI_add _ _).symm (by decide) rfl (fun ls hl => ?_)
        refine lv_goto (tgt := 20) hx hb dWh_becomeProduct_38 (by decide) ?_
        exact ih20 (up F9 i 0) (i + 1) H locs ls (by omega) (by intro j a b; by_cases q : j = i; rw [q, up_s]; rw [up_n q]; exact hj1 j a (by omega)) (by omega) hP hD hS (lv_sub hl [0, 1, 2, 3] rfl)
  exact L20 _ F 0 H locs ls (by omega) (by intro j a b; omega) (Nat.lt_succ_self _) hP hD hS (lv_sub hl [0, 1, 2, 3] rfl)

theorem dWh_giveBack_0 : decode prog_7_method_20_code 0 = .ok (.iconst 0, 1) := by decide +kernel
theorem dWh_giveBack_1 : decode prog_7_method_20_code 1 = .ok (.istore_n 3, 1) := by decide +kernel
theorem dWh_giveBack_2 : decode prog_7_method_20_code 2 = .ok (.iconst 0, 1) := by decide +kernel
theorem dWh_giveBack_3 : decode prog_7_method_20_code 3 = .ok (.istore 4, 2) := by decide +kernel
theorem dWh_giveBack_5 : decode prog_7_method_20_code 5 = .ok (.iload 4, 2) := by decide +kernel
theorem dWh_giveBack_7 : decode prog_7_method_20_code 7 = .ok (.aload_n 1, 1) := by decide +kernel
theorem dWh_giveBack_8 : decode prog_7_method_20_code 8 = .ok (.getfield 13, 3) := by decide +kernel
theorem dWh_giveBack_11 : decode prog_7_method_20_code 11 = .ok (.if_icmp .ge 59, 3) := by decide +kernel
theorem dWh_giveBack_14 : decode prog_7_method_20_code 14 = .ok (.aload_n 0, 1) := by decide +kernel
theorem dWh_giveBack_15 : decode prog_7_method_20_code 15 = .ok (.getfield 9, 3) := by decide +kernel
theorem dWh_giveBack_18 : decode prog_7_method_20_code 18 = .ok (.iload_n 2, 1) := by decide +kernel
theorem dWh_giveBack_19 : decode prog_7_method_20_code 19 = .ok (.iload 4, 2) := by decide +kernel
theorem dWh_giveBack_21 : decode prog_7_method_20_code 21 = .ok (.iadd, 1) := by decide +kernel
theorem dWh_giveBack_22 : decode prog_7_method_20_code 22 = .ok (.iaload, 1) := by decide +kernel
theorem dWh_giveBack_23 : decode prog_7_method_20_code 23 = .ok (.aload_n 1, 1) := by decide +kernel
theorem dWh_giveBack_24 : decode prog_7_method_20_code 24 = .ok (.getfield 9, 3) := by decide +kernel
theorem dWh_giveBack_27 : decode prog_7_method_20_code 27 = .ok (.iload 4, 2) := by decide +kernel
theorem dWh_giveBack_29 : decode prog_7_method_20_code 29 = .ok (.iaload, 1) := by decide +kernel
theorem dWh_giveBack_30 : decode prog_7_method_20_code 30 = .ok (.iadd, 1) := by decide +kernel
theorem dWh_giveBack_31 : decode prog_7_method_20_code 31 = .ok (.iload_n 3, 1) := by decide +kernel
theorem dWh_giveBack_32 : decode prog_7_method_20_code 32 = .ok (.iadd, 1) := by decide +kernel
theorem dWh_giveBack_33 : decode prog_7_method_20_code 33 = .ok (.istore 5, 2) := by decide +kernel
theorem dWh_giveBack_35 : decode prog_7_method_20_code 35 = .ok (.iload 5, 2) := by decide +kernel
theorem dWh_giveBack_37 : decode prog_7_method_20_code 37 = .ok (.ldc 54, 2) := by decide +kernel
theorem dWh_giveBack_39 : decode prog_7_method_20_code 39 = .ok (.if_icmp .lt 7, 3) := by decide +kernel
theorem dWh_giveBack_42 : decode prog_7_method_20_code 42 = .ok (.iconst 1, 1) := by decide +kernel
theorem dWh_giveBack_43 : decode prog_7_method_20_code 43 = .ok (.goto 4, 3) := by decide +kernel
theorem dWh_giveBack_46 : decode prog_7_method_20_code 46 = .ok (.iconst 0, 1) := by decide +kernel
theorem dWh_giveBack_47 : decode prog_7_method_20_code 47 = .ok (.istore_n 3, 1) := by decide +kernel
theorem dWh_giveBack_48 : decode prog_7_method_20_code 48 = .ok (.aload_n 0, 1) := by decide +kernel
theorem dWh_giveBack_49 : decode prog_7_method_20_code 49 = .ok (.getfield 9, 3) := by decide +kernel
theorem dWh_giveBack_52 : decode prog_7_method_20_code 52 = .ok (.iload_n 2, 1) := by decide +kernel
theorem dWh_giveBack_53 : decode prog_7_method_20_code 53 = .ok (.iload 4, 2) := by decide +kernel
theorem dWh_giveBack_55 : decode prog_7_method_20_code 55 = .ok (.iadd, 1) := by decide +kernel
theorem dWh_giveBack_56 : decode prog_7_method_20_code 56 = .ok (.iload 5, 2) := by decide +kernel
theorem dWh_giveBack_58 : decode prog_7_method_20_code 58 = .ok (.iload_n 3, 1) := by decide +kernel
theorem dWh_giveBack_59 : decode prog_7_method_20_code 59 = .ok (.ldc 54, 2) := by decide +kernel
theorem dWh_giveBack_61 : decode prog_7_method_20_code 61 = .ok (.imul, 1) := by decide +kernel
theorem dWh_giveBack_62 : decode prog_7_method_20_code 62 = .ok (.isub, 1) := by decide +kernel
theorem dWh_giveBack_63 : decode prog_7_method_20_code 63 = .ok (.iastore, 1) := by decide +kernel
theorem dWh_giveBack_64 : decode prog_7_method_20_code 64 = .ok (.iinc 4 1, 3) := by decide +kernel
theorem dWh_giveBack_67 : decode prog_7_method_20_code 67 = .ok (.goto (-62), 3) := by decide +kernel
theorem dWh_giveBack_70 : decode prog_7_method_20_code 70 = .ok (.return_, 1) := by decide +kernel
abbrev qWh_giveBack (dC : Nat → ClassId) (dI : Nat → Nat → Nat) (dA : Nat → ClassId) (a : Nat) (g : Nat) (F : Int → Int) (u : Int) (b : Nat) (h : Nat) (G : Int → Int) (v : Int) (M : Int) (pl : Int) (A : Nat → Prop) : Array Value → State → Outcome → State → Prop := QV (dC, dI) vwCl (tyA dA) (fun (v_ : (Int → Int) × Int) => gbJ F G pl v_.1 v_.2 v) (fun (v_ : (Int → Int) × Int) => wWh dA a g v_.1 u (wWh dA b h G v [])) A
abbrev rmWh_giveBack : Room := { frames := 0, cells := 0, slots := 0, locals := 0 }
set_option maxRecDepth 100000 in
set_option maxHeartbeats 1000000 in
theorem cWh_giveBack (l : Launch) (dC : Nat → ClassId) (dI : Nat → Nat → Nat) (dA : Nat → ClassId) (a : Nat) (g : Nat) (F : Int → Int) (u : Int) (b : Nat) (h : Nat) (G : Int → Int) (v : Int) (M : Int) (pl : Int) (hV : WR G v M) (hpl : 0 ≤ pl ∧ pl + v ≤ 32) (hdf : ∀ j, 0 ≤ j → j < v → 0 ≤ F (pl + j) ∧ F (pl + j) < 1000000000) (sz : Nat) : Met l yWh_giveBack wsWh_giveBack rmWh_giveBack (PC (dC, dI) vwCl (tyA dA) XN [.ref a, .ref b, .int (iI pl)] (wWh dA a g F u (wWh dA b h G v [])) sz) (qWh_giveBack dC dI dA a g F u b h G v M pl (va_A (wWh dA a g F u (wWh dA b h G v [])) sz)) 0 0 (va_A (wWh dA a g F u (wWh dA b h G v [])) sz) := by
  refine met_of (cc := prog_7_method_20_code) (maxL := 6) (ret := none) (Qc := qWh_giveBack dC dI dA a g F u b h G v M pl) XN_ok (by decide) rfl (Nat.le_of_ble_eq_true rfl) ?_
  intro p e s m below meth c ls A hx hb hr hml hown hts hlocks hnm hK hP hD hA hX hS hl
  have hl : lv_has ls 6 [(0, .ref a), (1, .ref b), (2, .int (iI pl))] := hl
  have hown : s.vm.findClass "MacroReckoner$Whole" = some m.cls := hown
  obtain ⟨H, hH⟩ : ∃ H : Heap, H = s.heap := ⟨_, rfl⟩
  obtain ⟨locs, hlo⟩ : ∃ L : List Loc, L = [] := ⟨_, rfl⟩
  have hP : va_P (dC, dI) vwCl (wWh dA a g F u (wWh dA b h G v [])) H := hH ▸ hP
  have hS : va_S A s.heap H locs := by rw [hH, hlo]; exact hS
  suffices hgo : W p l e rmWh_giveBack s m [.ref a, .ref b, .int (iI pl)].toArray below meth c H locs 0 0 (MQ below (qWh_giveBack dC dI dA a g F u b h G v M pl A) [.ref a, .ref b, .int (iI pl)].toArray s 0 0 A) (F0 m 0 ls []) by rw [hH, hlo] at hgo; exact hgo
  clear hH hlo
  have hv := hV.1
  refine lv_iconst (v := iI 0) hx hb dWh_giveBack_0 rfl ?_
  refine lv_istore_n (lv' := [(3, .int (iI 0)), (0, .ref a), (1, .ref b), (2, .int (iI pl))]) hx hb dWh_giveBack_1 rfl hl (by decide) rfl (fun ls hl => ?_)
  refine lv_iconst (v := iI 0) hx hb dWh_giveBack_2 rfl ?_
  refine lv_istore (lv' := [(4, .int (iI 0)), (3, .int (iI 0)), (0, .ref a), (1, .ref b), (2, .int (iI pl))]) hx hb dWh_giveBack_3 hl (by decide) rfl (fun ls hl => ?_)
  have L5 : ∀ (n : Nat) (F9 : Int → Int) (cy : Int) (i : Int) (H : Heap) (locs : List Loc) (ls : Array Slot), (i ≤ v) → (gbJ F G pl F9 cy i) → (v - i).toNat < n → va_P (dC, dI) vwCl (wWh dA a g F9 u (wWh dA b h G v [])) H → va_D A (wWh dA a g F9 u (wWh dA b h G v [])) → va_S A s.heap H locs → lv_has ls 6 [(4, .int (iI i)), (3, .int (iI cy)), (0, .ref a), (1, .ref b), (2, .int (iI pl))] → W p l e rmWh_giveBack s m [.ref a, .ref b, .int (iI pl)].toArray below meth c H locs 0 0 (MQ below (qWh_giveBack dC dI dA a g F u b h G v M pl A) [.ref a, .ref b, .int (iI pl)].toArray s 0 0 A) (F0 m 5 ls []) := by
    intro n
    induction n with
    | zero => intro F9 cy i H locs ls hi hJ hn; omega
    | succ n ih =>
      intro F9 cy i H locs ls hi hJ hn hP hD hS hl
      have hj := hJ.1
      have hj2 := hJ.2.1
      have hj3 := hJ.2.2.1
      have ih5 := ih
      refine lv_iload hx hb dWh_giveBack_5 (lv_at hl 0 rfl) ?_
      refine lv_aload_n hx hb dWh_giveBack_7 rfl (lv_at hl 3 rfl) ?_
      refine va_get (D := (dC, dI)) (ci := 5) (v := .int (iI v)) (C := "MacroReckoner$Whole") (T := TWh) (N := 2) hx hb hts inWh hown hK hP 2 rfl rfl 1 (by decide) (hts _ wt1_93) (fun _ h9 => h9) rfl dWh_giveBack_8 ?_
      refine iv_icmp_ge (tgt := 70) hx hb dWh_giveBack_11 (by decide) ⟨by omega, by omega⟩ ⟨by omega, by omega⟩ (fun hc11 => ?_) (fun hc11 => ?_)
      · exact rt_v hx hb hr hlocks hK hS dWh_giveBack_70 (F9, cy) hP hD (show gbJ F G pl F9 cy v from by exact (show i = v by omega) ▸ hJ)
      · have hdi := hdf i (by omega) (by omega)
        have hfi := hJ.2.2.2.2.1 (pl + i) (by omega)
        have hgi := hV.2.1 i (by omega) (by omega)
        refine lv_aload_n hx hb dWh_giveBack_14 rfl (lv_at hl 2 rfl) ?_
        refine va_get (D := (dC, dI)) (ci := 5) (v := .ref g) (C := "MacroReckoner$Whole") (T := TWh) (N := 2) hx hb hts inWh hown hK hP 0 rfl rfl 0 (by decide) (hts _ wt1_92) (fun _ h9 => h9) rfl dWh_giveBack_15 ?_
        refine lv_iload_n hx hb dWh_giveBack_18 rfl (lv_at hl 4 rfl) ?_
        refine lv_iload hx hb dWh_giveBack_19 (lv_at hl 0 rfl) ?_
        refine iv_iadd hx hb dWh_giveBack_21 ?_
        refine iv_iald hx hb hK hP 1 0 rfl rfl (by decide) dWh_giveBack_22 (by omega) (by omega) ?_
        refine lv_aload_n hx hb dWh_giveBack_23 rfl (lv_at hl 3 rfl) ?_
        refine va_get (D := (dC, dI)) (ci := 5) (v := .ref h) (C := "MacroReckoner$Whole") (T := TWh) (N := 2) hx hb hts inWh hown hK hP 2 rfl rfl 0 (by decide) (hts _ wt1_92) (fun _ h9 => h9) rfl dWh_giveBack_24 ?_
        refine lv_iload hx hb dWh_giveBack_27 (lv_at hl 0 rfl) ?_
        refine iv_iald hx hb hK hP 3 0 rfl rfl (by decide) dWh_giveBack_29 (by omega) (by omega) ?_
        refine iv_iadd hx hb dWh_giveBack_30 ?_
        refine lv_iload_n hx hb dWh_giveBack_31 rfl (lv_at hl 1 rfl) ?_
        refine iv_iadd hx hb dWh_giveBack_32 ?_
        refine lv_istore (lv' := [(5, .int (iI (((F9 (pl + i)) + (G i)) + cy))), (4, .int (iI i)), (3, .int (iI cy)), (0, .ref a), (1, .ref b), (2, .int (iI pl))]) hx hb dWh_giveBack_33 hl (by decide) rfl (fun ls hl => ?_)
        refine lv_iload hx hb dWh_giveBack_35 (lv_at hl 0 rfl) ?_
        refine lv_ldc (v := iI 1000000000) hx hb hown ((by decide : (1000000000 : Int32) = iI 1000000000) ▸ hts _ wt3_82) dWh_giveBack_37 ?_
        refine iv_icmp_lt (tgt := 46) hx hb dWh_giveBack_39 (by decide) ⟨by omega, by omega⟩ ⟨by decide, by decide⟩ (fun hc39 => ?_) (fun hc39 => ?_)
        · refine lv_iconst (v := iI 0) hx hb dWh_giveBack_46 rfl ?_
          refine lv_istore_n (lv' := [(3, .int (iI 0)), (5, .int (iI (((F9 (pl + i)) + (G i)) + cy))), (4, .int (iI i)), (0, .ref a), (1, .ref b), (2, .int (iI pl))]) hx hb dWh_giveBack_47 rfl hl (by decide) rfl (fun ls hl => ?_)
          refine lv_aload_n hx hb dWh_giveBack_48 rfl (lv_at hl 3 rfl) ?_
          refine va_get (D := (dC, dI)) (ci := 5) (v := .ref g) (C := "MacroReckoner$Whole") (T := TWh) (N := 2) hx hb hts inWh hown hK hP 0 rfl rfl 0 (by decide) (hts _ wt1_92) (fun _ h9 => h9) rfl dWh_giveBack_49 ?_
          refine lv_iload_n hx hb dWh_giveBack_52 rfl (lv_at hl 5 rfl) ?_
          refine lv_iload hx hb dWh_giveBack_53 (lv_at hl 2 rfl) ?_
          refine iv_iadd hx hb dWh_giveBack_55 ?_
          refine lv_iload hx hb dWh_giveBack_56 (lv_at hl 1 rfl) ?_
          refine lv_iload_n hx hb dWh_giveBack_58 rfl (lv_at hl 0 rfl) ?_
          refine lv_ldc (v := iI 1000000000) hx hb hown ((by decide : (1000000000 : Int32) = iI 1000000000) ▸ hts _ wt3_82) dWh_giveBack_59 ?_
          refine iv_imul hx hb dWh_giveBack_61 ?_
          refine iv_isub hx hb dWh_giveBack_62 ?_
          refine iv_iast (v := (((F9 (pl + i)) + (G i)) + cy) - (0 * 1000000000)) hx hb hK hP hD hS 1 0 rfl rfl (by decide) dWh_giveBack_63 (by omega) (by omega) (fun H locs hP hD hS => ?_)
          have hP : va_P (dC, dI) vwCl (wWh dA a g (up F9 (pl + i) ((((F9 (pl + i)) + (G i)) + cy) - (0 * 1000000000))) u (wWh dA b h G v [])) H := hP
          have hD : va_D A (wWh dA a g (up F9 (pl + i) ((((F9 (pl + i)) + (G i)) + cy) - (0 * 1000000000))) u (wWh dA b h G v [])) := hD
          refine lv_iinc (k := 2) (lv' := [(4, .int (iI (i + 1))), (3, .int (iI 0)), (5, .int (iI (((F9 (pl + i)) + (G i)) + cy))), (0, .ref a), (1, .ref b), (2, .int (iI pl))]) (v := iI (i + 1)) hx hb dWh_giveBack_64 hl rfl (iI_add _ _).symm (by decide) rfl (fun ls hl => ?_)
          refine lv_goto (tgt := 5) hx hb dWh_giveBack_67 (by decide) ?_
          exact ih5 (up F9 (pl + i) ((((F9 (pl + i)) + (G i)) + cy) - (0 * 1000000000))) 0 (i + 1) H locs ls (by omega) (by exact gb_s hJ hdi hgi (by omega)) (by omega) hP hD hS (lv_sub hl [0, 1, 3, 4, 5] rfl)
        · refine lv_iconst (v := iI 1) hx hb dWh_giveBack_42 rfl ?_
          refine lv_goto (tgt := 47) hx hb dWh_giveBack_43 (by decide) ?_
          refine lv_istore_n (lv' := [(3, .int (iI 1)), (5, .int (iI (((F9 (pl + i)) + (G i)) + cy))), (4, .int (iI i)), (0, .ref a), (1, .ref b), (2, .int (iI pl))]) hx hb dWh_giveBack_47 rfl hl (by decide) rfl (fun ls hl => ?_)
          refine lv_aload_n hx hb dWh_giveBack_48 rfl (lv_at hl 3 rfl) ?_
          refine va_get (D := (dC, dI)) (ci := 5) (v := .ref g) (C := "MacroReckoner$Whole") (T := TWh) (N := 2) hx hb hts inWh hown hK hP 0 rfl rfl 0 (by decide) (hts _ wt1_92) (fun _ h9 => h9) rfl dWh_giveBack_49 ?_
          refine lv_iload_n hx hb dWh_giveBack_52 rfl (lv_at hl 5 rfl) ?_
          refine lv_iload hx hb dWh_giveBack_53 (lv_at hl 2 rfl) ?_
          refine iv_iadd hx hb dWh_giveBack_55 ?_
          refine lv_iload hx hb dWh_giveBack_56 (lv_at hl 1 rfl) ?_
          refine lv_iload_n hx hb dWh_giveBack_58 rfl (lv_at hl 0 rfl) ?_
          refine lv_ldc (v := iI 1000000000) hx hb hown ((by decide : (1000000000 : Int32) = iI 1000000000) ▸ hts _ wt3_82) dWh_giveBack_59 ?_
          refine iv_imul hx hb dWh_giveBack_61 ?_
          refine iv_isub hx hb dWh_giveBack_62 ?_
          refine iv_iast (v := (((F9 (pl + i)) + (G i)) + cy) - (1 * 1000000000)) hx hb hK hP hD hS 1 0 rfl rfl (by decide) dWh_giveBack_63 (by omega) (by omega) (fun H locs hP hD hS => ?_)
          have hP : va_P (dC, dI) vwCl (wWh dA a g (up F9 (pl + i) ((((F9 (pl + i)) + (G i)) + cy) - (1 * 1000000000))) u (wWh dA b h G v [])) H := hP
          have hD : va_D A (wWh dA a g (up F9 (pl + i) ((((F9 (pl + i)) + (G i)) + cy) - (1 * 1000000000))) u (wWh dA b h G v [])) := hD
          refine lv_iinc (k := 2) (lv' := [(4, .int (iI (i + 1))), (3, .int (iI 1)), (5, .int (iI (((F9 (pl + i)) + (G i)) + cy))), (0, .ref a), (1, .ref b), (2, .int (iI pl))]) (v := iI (i + 1)) hx hb dWh_giveBack_64 hl rfl (iI_add _ _).symm (by decide) rfl (fun ls hl => ?_)
          refine lv_goto (tgt := 5) hx hb dWh_giveBack_67 (by decide) ?_
          exact ih5 (up F9 (pl + i) ((((F9 (pl + i)) + (G i)) + cy) - (1 * 1000000000))) 1 (i + 1) H locs ls (by omega) (by exact gb_s hJ hdi hgi (by omega)) (by omega) hP hD hS (lv_sub hl [0, 1, 3, 4, 5] rfl)
  exact L5 _ F 0 0 H locs ls (by omega) (by exact gb_0) (Nat.lt_succ_self _) hP hD hS (lv_sub hl [0, 1, 2, 3, 4] rfl)

theorem dWh_takeAway_0 : decode prog_7_method_19_code 0 = .ok (.lconst 0, 1) := by decide +kernel
theorem dWh_takeAway_1 : decode prog_7_method_19_code 1 = .ok (.lstore 4, 2) := by decide +kernel
theorem dWh_takeAway_3 : decode prog_7_method_19_code 3 = .ok (.iconst 0, 1) := by decide +kernel
theorem dWh_takeAway_4 : decode prog_7_method_19_code 4 = .ok (.istore 6, 2) := by decide +kernel
theorem dWh_takeAway_6 : decode prog_7_method_19_code 6 = .ok (.iload 6, 2) := by decide +kernel
theorem dWh_takeAway_8 : decode prog_7_method_19_code 8 = .ok (.aload_n 1, 1) := by decide +kernel
theorem dWh_takeAway_9 : decode prog_7_method_19_code 9 = .ok (.getfield 13, 3) := by decide +kernel
theorem dWh_takeAway_12 : decode prog_7_method_19_code 12 = .ok (.if_icmp .ge 64, 3) := by decide +kernel
theorem dWh_takeAway_15 : decode prog_7_method_19_code 15 = .ok (.lload 4, 2) := by decide +kernel
theorem dWh_takeAway_17 : decode prog_7_method_19_code 17 = .ok (.aload_n 0, 1) := by decide +kernel
theorem dWh_takeAway_18 : decode prog_7_method_19_code 18 = .ok (.getfield 9, 3) := by decide +kernel
theorem dWh_takeAway_21 : decode prog_7_method_19_code 21 = .ok (.iload_n 3, 1) := by decide +kernel
theorem dWh_takeAway_22 : decode prog_7_method_19_code 22 = .ok (.iload 6, 2) := by decide +kernel
theorem dWh_takeAway_24 : decode prog_7_method_19_code 24 = .ok (.iadd, 1) := by decide +kernel
theorem dWh_takeAway_25 : decode prog_7_method_19_code 25 = .ok (.iaload, 1) := by decide +kernel
theorem dWh_takeAway_26 : decode prog_7_method_19_code 26 = .ok (.i2l, 1) := by decide +kernel
theorem dWh_takeAway_27 : decode prog_7_method_19_code 27 = .ok (.iload_n 2, 1) := by decide +kernel
theorem dWh_takeAway_28 : decode prog_7_method_19_code 28 = .ok (.i2l, 1) := by decide +kernel
theorem dWh_takeAway_29 : decode prog_7_method_19_code 29 = .ok (.aload_n 1, 1) := by decide +kernel
theorem dWh_takeAway_30 : decode prog_7_method_19_code 30 = .ok (.getfield 9, 3) := by decide +kernel
theorem dWh_takeAway_33 : decode prog_7_method_19_code 33 = .ok (.iload 6, 2) := by decide +kernel
theorem dWh_takeAway_35 : decode prog_7_method_19_code 35 = .ok (.iaload, 1) := by decide +kernel
theorem dWh_takeAway_36 : decode prog_7_method_19_code 36 = .ok (.i2l, 1) := by decide +kernel
theorem dWh_takeAway_37 : decode prog_7_method_19_code 37 = .ok (.lmul, 1) := by decide +kernel
theorem dWh_takeAway_38 : decode prog_7_method_19_code 38 = .ok (.lsub, 1) := by decide +kernel
theorem dWh_takeAway_39 : decode prog_7_method_19_code 39 = .ok (.ladd, 1) := by decide +kernel
theorem dWh_takeAway_40 : decode prog_7_method_19_code 40 = .ok (.lstore 4, 2) := by decide +kernel
theorem dWh_takeAway_42 : decode prog_7_method_19_code 42 = .ok (.aload_n 0, 1) := by decide +kernel
theorem dWh_takeAway_43 : decode prog_7_method_19_code 43 = .ok (.getfield 9, 3) := by decide +kernel
theorem dWh_takeAway_46 : decode prog_7_method_19_code 46 = .ok (.iload_n 3, 1) := by decide +kernel
theorem dWh_takeAway_47 : decode prog_7_method_19_code 47 = .ok (.iload 6, 2) := by decide +kernel
theorem dWh_takeAway_49 : decode prog_7_method_19_code 49 = .ok (.iadd, 1) := by decide +kernel
theorem dWh_takeAway_50 : decode prog_7_method_19_code 50 = .ok (.lload 4, 2) := by decide +kernel
theorem dWh_takeAway_52 : decode prog_7_method_19_code 52 = .ok (.ldc2_w 46, 3) := by decide +kernel
theorem dWh_takeAway_55 : decode prog_7_method_19_code 55 = .ok (.invokestatic 71, 3) := by decide +kernel
theorem dWh_takeAway_58 : decode prog_7_method_19_code 58 = .ok (.l2i, 1) := by decide +kernel
theorem dWh_takeAway_59 : decode prog_7_method_19_code 59 = .ok (.iastore, 1) := by decide +kernel
theorem dWh_takeAway_60 : decode prog_7_method_19_code 60 = .ok (.lload 4, 2) := by decide +kernel
theorem dWh_takeAway_62 : decode prog_7_method_19_code 62 = .ok (.ldc2_w 46, 3) := by decide +kernel
theorem dWh_takeAway_65 : decode prog_7_method_19_code 65 = .ok (.invokestatic 75, 3) := by decide +kernel
theorem dWh_takeAway_68 : decode prog_7_method_19_code 68 = .ok (.lstore 4, 2) := by decide +kernel
theorem dWh_takeAway_70 : decode prog_7_method_19_code 70 = .ok (.iinc 6 1, 3) := by decide +kernel
theorem dWh_takeAway_73 : decode prog_7_method_19_code 73 = .ok (.goto (-67), 3) := by decide +kernel
theorem dWh_takeAway_76 : decode prog_7_method_19_code 76 = .ok (.aload_n 0, 1) := by decide +kernel
theorem dWh_takeAway_77 : decode prog_7_method_19_code 77 = .ok (.getfield 9, 3) := by decide +kernel
theorem dWh_takeAway_80 : decode prog_7_method_19_code 80 = .ok (.iload_n 3, 1) := by decide +kernel
theorem dWh_takeAway_81 : decode prog_7_method_19_code 81 = .ok (.aload_n 1, 1) := by decide +kernel
theorem dWh_takeAway_82 : decode prog_7_method_19_code 82 = .ok (.getfield 13, 3) := by decide +kernel
theorem dWh_takeAway_85 : decode prog_7_method_19_code 85 = .ok (.iadd, 1) := by decide +kernel
theorem dWh_takeAway_86 : decode prog_7_method_19_code 86 = .ok (.iaload, 1) := by decide +kernel
theorem dWh_takeAway_87 : decode prog_7_method_19_code 87 = .ok (.i2l, 1) := by decide +kernel
theorem dWh_takeAway_88 : decode prog_7_method_19_code 88 = .ok (.lload 4, 2) := by decide +kernel
theorem dWh_takeAway_90 : decode prog_7_method_19_code 90 = .ok (.ladd, 1) := by decide +kernel
theorem dWh_takeAway_91 : decode prog_7_method_19_code 91 = .ok (.lconst 0, 1) := by decide +kernel
theorem dWh_takeAway_92 : decode prog_7_method_19_code 92 = .ok (.lcmp, 1) := by decide +kernel
theorem dWh_takeAway_93 : decode prog_7_method_19_code 93 = .ok (.ifCond .ge 7, 3) := by decide +kernel
theorem dWh_takeAway_96 : decode prog_7_method_19_code 96 = .ok (.iconst 1, 1) := by decide +kernel
theorem dWh_takeAway_97 : decode prog_7_method_19_code 97 = .ok (.goto 4, 3) := by decide +kernel
theorem dWh_takeAway_100 : decode prog_7_method_19_code 100 = .ok (.iconst 0, 1) := by decide +kernel
theorem dWh_takeAway_101 : decode prog_7_method_19_code 101 = .ok (.ireturn, 1) := by decide +kernel
abbrev qWh_takeAway (dC : Nat → ClassId) (dI : Nat → Nat → Nat) (dA : Nat → ClassId) (a : Nat) (g : Nat) (F : Int → Int) (u : Int) (b : Nat) (h : Nat) (G : Int → Int) (v : Int) (M : Int) (tm : Int) (pl : Int) (A : Nat → Prop) : Array Value → State → Outcome → State → Prop := QI (dC, dI) vwCl (tyA dA) (fun (r : Int) (v_ : (Int → Int) × Int) => taJ F G pl tm v_.1 v_.2 v ∧ ((r = 1 ∧ F (pl + v) + v_.2 < 0) ∨ (r = 0 ∧ 0 ≤ F (pl + v) + v_.2))) (fun (v_ : (Int → Int) × Int) => wWh dA a g v_.1 u (wWh dA b h G v [])) A
abbrev rmWh_takeAway : Room := { frames := 1, cells := 0, slots := 0, locals := 25 }
set_option maxRecDepth 100000 in
set_option maxHeartbeats 1000000 in
theorem cWh_takeAway (l : Launch) (dC : Nat → ClassId) (dI : Nat → Nat → Nat) (dA : Nat → ClassId) (a : Nat) (g : Nat) (F : Int → Int) (u : Int) (b : Nat) (h : Nat) (G : Int → Int) (v : Int) (M : Int) (tm : Int) (pl : Int) (hV : WR G v M) (hpl : 0 ≤ pl ∧ pl + v < 32) (htm : 0 ≤ tm ∧ tm < 1000000000) (hdf : ∀ j, 0 ≤ j → j ≤ v → 0 ≤ F (pl + j) ∧ F (pl + j) < 1000000000) (sz : Nat) : Met l yWh_takeAway wsWh_takeAway rmWh_takeAway (PC (dC, dI) vwCl (tyA dA) XN [.ref a, .ref b, .int (iI tm), .int (iI pl)] (wWh dA a g F u (wWh dA b h G v [])) sz) (qWh_takeAway dC dI dA a g F u b h G v M tm pl (va_A (wWh dA a g F u (wWh dA b h G v [])) sz)) 0 0 (va_A (wWh dA a g F u (wWh dA b h G v [])) sz) := by
  refine met_of (cc := prog_7_method_19_code) (maxL := 7) (ret := (some .boolean)) (Qc := qWh_takeAway dC dI dA a g F u b h G v M tm pl) XN_ok (by decide) rfl (Nat.le_of_ble_eq_true rfl) ?_
  intro p e s m below meth c ls A hx hb hr hml hown hts hlocks hnm hK hP hD hA hX hS hl
  have hl : lv_has ls 7 [(0, .ref a), (1, .ref b), (2, .int (iI tm)), (3, .int (iI pl))] := hl
  have hown : s.vm.findClass "MacroReckoner$Whole" = some m.cls := hown
  obtain ⟨H, hH⟩ : ∃ H : Heap, H = s.heap := ⟨_, rfl⟩
  obtain ⟨locs, hlo⟩ : ∃ L : List Loc, L = [] := ⟨_, rfl⟩
  have hP : va_P (dC, dI) vwCl (wWh dA a g F u (wWh dA b h G v [])) H := hH ▸ hP
  have hS : va_S A s.heap H locs := by rw [hH, hlo]; exact hS
  suffices hgo : W p l e rmWh_takeAway s m [.ref a, .ref b, .int (iI tm), .int (iI pl)].toArray below meth c H locs 0 0 (MQ below (qWh_takeAway dC dI dA a g F u b h G v M tm pl A) [.ref a, .ref b, .int (iI tm), .int (iI pl)].toArray s 0 0 A) (F0 m 0 ls []) by rw [hH, hlo] at hgo; exact hgo
  clear hH hlo
  have hv := hV.1
  refine lv_lconst (v := iL 0) hx hb dWh_takeAway_0 rfl ?_
  refine lv_lstore (lv' := [(4, .long (iL 0)), (0, .ref a), (1, .ref b), (2, .int (iI tm)), (3, .int (iI pl))]) hx hb dWh_takeAway_1 hl (by decide) rfl (fun ls hl => ?_)
  refine lv_iconst (v := iI 0) hx hb dWh_takeAway_3 rfl ?_
  refine lv_istore (lv' := [(6, .int (iI 0)), (4, .long (iL 0)), (0, .ref a), (1, .ref b), (2, .int (iI tm)), (3, .int (iI pl))]) hx hb dWh_takeAway_4 hl (by decide) rfl (fun ls hl => ?_)
  have L6 : ∀ (n : Nat) (F9 : Int → Int) (cy : Int) (i : Int) (H : Heap) (locs : List Loc) (ls : Array Slot), (i ≤ v) → (taJ F G pl tm F9 cy i) → (v - i).toNat < n → va_P (dC, dI) vwCl (wWh dA a g F9 u (wWh dA b h G v [])) H → va_D A (wWh dA a g F9 u (wWh dA b h G v [])) → va_S A s.heap H locs → lv_has ls 7 [(6, .int (iI i)), (4, .long (iL cy)), (0, .ref a), (1, .ref b), (2, .int (iI tm)), (3, .int (iI pl))] → W p l e rmWh_takeAway s m [.ref a, .ref b, .int (iI tm), .int (iI pl)].toArray below meth c H locs 0 0 (MQ below (qWh_takeAway dC dI dA a g F u b h G v M tm pl A) [.ref a, .ref b, .int (iI tm), .int (iI pl)].toArray s 0 0 A) (F0 m 6 ls []) := by
    intro n
    induction n with
    | zero => intro F9 cy i H locs ls hi hJ hn; omega
    | succ n ih =>
      intro F9 cy i H locs ls hi hJ hn hP hD hS hl
      have hj := hJ.1
      have hj2 := hJ.2.1
      have hj3 := hJ.2.2.1
      have ih6 := ih
      refine lv_iload hx hb dWh_takeAway_6 (lv_at hl 0 rfl) ?_
      refine lv_aload_n hx hb dWh_takeAway_8 rfl (lv_at hl 3 rfl) ?_
      refine va_get (D := (dC, dI)) (ci := 5) (v := .int (iI v)) (C := "MacroReckoner$Whole") (T := TWh) (N := 2) hx hb hts inWh hown hK hP 2 rfl rfl 1 (by decide) (hts _ wt1_93) (fun _ h9 => h9) rfl dWh_takeAway_9 ?_
      refine iv_icmp_ge (tgt := 76) hx hb dWh_takeAway_12 (by decide) ⟨by omega, by omega⟩ ⟨by omega, by omega⟩ (fun hc12 => ?_) (fun hc12 => ?_)
      · have hfv := hJ.2.2.2.2.1 (pl + v) (by omega)
        have hdv := hdf v (by omega) (by omega)
        refine lv_aload_n hx hb dWh_takeAway_76 rfl (lv_at hl 2 rfl) ?_
        refine va_get (D := (dC, dI)) (ci := 5) (v := .ref g) (C := "MacroReckoner$Whole") (T := TWh) (N := 2) hx hb hts inWh hown hK hP 0 rfl rfl 0 (by decide) (hts _ wt1_92) (fun _ h9 => h9) rfl dWh_takeAway_77 ?_
        refine lv_iload_n hx hb dWh_takeAway_80 rfl (lv_at hl 5 rfl) ?_
        refine lv_aload_n hx hb dWh_takeAway_81 rfl (lv_at hl 3 rfl) ?_
        refine va_get (D := (dC, dI)) (ci := 5) (v := .int (iI v)) (C := "MacroReckoner$Whole") (T := TWh) (N := 2) hx hb hts inWh hown hK hP 2 rfl rfl 1 (by decide) (hts _ wt1_93) (fun _ h9 => h9) rfl dWh_takeAway_82 ?_
        refine iv_iadd hx hb dWh_takeAway_85 ?_
        refine iv_iald hx hb hK hP 1 0 rfl rfl (by decide) dWh_takeAway_86 (by omega) (by omega) ?_
        refine iv_i2l hx hb dWh_takeAway_87 ⟨by omega, by omega⟩ ?_
        refine lv_lload hx hb dWh_takeAway_88 (lv_at hl 1 rfl) ?_
        refine iv_ladd hx hb dWh_takeAway_90 ?_
        refine lv_lconst (v := iL 0) hx hb dWh_takeAway_91 rfl ?_
        refine iv_lcmp_ge (tgt := 100) hx hb dWh_takeAway_92 dWh_takeAway_93 (by decide) ⟨by omega, by omega⟩ ⟨by decide, by decide⟩ (fun hc93 => ?_) (fun hc93 => ?_)
        · refine lv_iconst (v := iI 0) hx hb dWh_takeAway_100 rfl ?_
          exact rt_z hx hb hr hlocks hK hS dWh_takeAway_101 (nrw_bool (by omega)) (F9, cy) hP hD (show taJ F G pl tm F9 cy v ∧ ((0 = 1 ∧ F (pl + v) + cy < 0) ∨ (0 = 0 ∧ 0 ≤ F (pl + v) + cy)) from by refine ⟨(show i = v by omega) ▸ hJ, ?_⟩; omega)
        · refine lv_iconst (v := iI 1) hx hb dWh_takeAway_96 rfl ?_
          refine lv_goto (tgt := 101) hx hb dWh_takeAway_97 (by decide) ?_
          exact rt_z hx hb hr hlocks hK hS dWh_takeAway_101 (nrw_bool (by omega)) (F9, cy) hP hD (show taJ F G pl tm F9 cy v ∧ ((1 = 1 ∧ F (pl + v) + cy < 0) ∨ (1 = 0 ∧ 0 ≤ F (pl + v) + cy)) from by refine ⟨(show i = v by omega) ▸ hJ, ?_⟩; omega)
      · have hdi := hdf i (by omega) (by omega)
        have hgi := hV.2.1 i (by omega) (by omega)
        have hx9 := ta_x hJ hdi hgi htm
        refine lv_lload hx hb dWh_takeAway_15 (lv_at hl 1 rfl) ?_
        refine lv_aload_n hx hb dWh_takeAway_17 rfl (lv_at hl 2 rfl) ?_
        refine va_get (D := (dC, dI)) (ci := 5) (v := .ref g) (C := "MacroReckoner$Whole") (T := TWh) (N := 2) hx hb hts inWh hown hK hP 0 rfl rfl 0 (by decide) (hts _ wt1_92) (fun _ h9 => h9) rfl dWh_takeAway_18 ?_
        refine lv_iload_n hx hb dWh_takeAway_21 rfl (lv_at hl 5 rfl) ?_
        refine lv_iload hx hb dWh_takeAway_22 (lv_at hl 0 rfl) ?_
        refine iv_iadd hx hb dWh_takeAway_24 ?_
        refine iv_iald hx hb hK hP 1 0 rfl rfl (by decide) dWh_takeAway_25 (by omega) (by omega) ?_
        refine iv_i2l hx hb dWh_takeAway_26 ⟨by omega, by omega⟩ ?_
        refine lv_iload_n hx hb dWh_takeAway_27 rfl (lv_at hl 4 rfl) ?_
        refine iv_i2l hx hb dWh_takeAway_28 ⟨by omega, by omega⟩ ?_
        refine lv_aload_n hx hb dWh_takeAway_29 rfl (lv_at hl 3 rfl) ?_
        refine va_get (D := (dC, dI)) (ci := 5) (v := .ref h) (C := "MacroReckoner$Whole") (T := TWh) (N := 2) hx hb hts inWh hown hK hP 2 rfl rfl 0 (by decide) (hts _ wt1_92) (fun _ h9 => h9) rfl dWh_takeAway_30 ?_
        refine lv_iload hx hb dWh_takeAway_33 (lv_at hl 0 rfl) ?_
        refine iv_iald hx hb hK hP 3 0 rfl rfl (by decide) dWh_takeAway_35 (by omega) (by omega) ?_
        refine iv_i2l hx hb dWh_takeAway_36 ⟨by omega, by omega⟩ ?_
        refine iv_lmul hx hb dWh_takeAway_37 ?_
        refine iv_lsub hx hb dWh_takeAway_38 ?_
        refine iv_ladd hx hb dWh_takeAway_39 ?_
        refine lv_lstore (lv' := [(4, .long (iL (cy + ((F9 (pl + i)) - (tm * (G i)))))), (6, .int (iI i)), (0, .ref a), (1, .ref b), (2, .int (iI tm)), (3, .int (iI pl))]) hx hb dWh_takeAway_40 hl (by decide) rfl (fun ls hl => ?_)
        obtain ⟨xx, e_xx⟩ : ∃ z : Int, z = cy + ((F9 (pl + i)) - (tm * (G i))) := ⟨_, rfl⟩
        rw [← e_xx] at hl
        refine lv_aload_n hx hb dWh_takeAway_42 rfl (lv_at hl 2 rfl) ?_
        refine va_get (D := (dC, dI)) (ci := 5) (v := .ref g) (C := "MacroReckoner$Whole") (T := TWh) (N := 2) hx hb hts inWh hown hK hP 0 rfl rfl 0 (by decide) (hts _ wt1_92) (fun _ h9 => h9) rfl dWh_takeAway_43 ?_
        refine lv_iload_n hx hb dWh_takeAway_46 rfl (lv_at hl 5 rfl) ?_
        refine lv_iload hx hb dWh_takeAway_47 (lv_at hl 1 rfl) ?_
        refine iv_iadd hx hb dWh_takeAway_49 ?_
        refine lv_lload hx hb dWh_takeAway_50 (lv_at hl 0 rfl) ?_
        refine lv_ldc2 (v := iL 1000000000) hx hb hown ((by decide : (1000000000 : Int64) = iL 1000000000) ▸ hts _ wt3_21) dWh_takeAway_52 ?_
        refine cv_l (va_runS (As := [.long (iL xx), .long (iL 1000000000)]) (rest := [.int (iI (pl + i)), .ref g]) ⟨hx, hb, hml, hown, hts⟩ (cMa_floorMod l dC dI dA xx 1000000000 (by omega) (by omega) (by omega) H.size) (va_cwS 2 hts (gdT wt3_144 wt3_145 wt1_16 wt3_146) rfl rfl rfl ⟨by decide, by decide, by decide +kernel⟩ ⟨by decide, by decide⟩) (preS hK hP hD hS hA XN_ok trivial [] rfl rfl) rfl rfl hl.1 rfl (lv_room (Nat.le_of_ble_eq_true rfl)) dWh_takeAway_55 ⟨Nat.zero_le _, Nat.zero_le _⟩) hP hD hS hA [] [0, 1, 2, 3] rfl (fun v_ => wWh dA a g F9 u (wWh dA b h G v [])) (fun _ => rfl) (wWh dA a g F9 u (wWh dA b h G v [])) rfl (fun _ => rfl) [a, g, b, h] rfl (fun _ => rfl) (fun _ => rfl) (fun r55 u_ H locs hq55 hP hD hS => ?_)
        have hP : va_P (dC, dI) vwCl (wWh dA a g F9 u (wWh dA b h G v [])) H := hP
        have hD : va_D A (wWh dA a g F9 u (wWh dA b h G v [])) := hD
        have hq55 : r55 = xx % 1000000000 := hq55
        refine iv_l2i hx hb dWh_takeAway_58 ?_
        refine iv_iast (v := r55) hx hb hK hP hD hS 1 0 rfl rfl (by decide) dWh_takeAway_59 (by omega) (by omega) (fun H locs hP hD hS => ?_)
        have hP : va_P (dC, dI) vwCl (wWh dA a g (up F9 (pl + i) r55) u (wWh dA b h G v [])) H := hP
        have hD : va_D A (wWh dA a g (up F9 (pl + i) r55) u (wWh dA b h G v [])) := hD
        refine lv_lload hx hb dWh_takeAway_60 (lv_at hl 0 rfl) ?_
        refine lv_ldc2 (v := iL 1000000000) hx hb hown ((by decide : (1000000000 : Int64) = iL 1000000000) ▸ hts _ wt3_21) dWh_takeAway_62 ?_
        refine cv_l (va_runS (As := [.long (iL xx), .long (iL 1000000000)]) (rest := []) ⟨hx, hb, hml, hown, hts⟩ (cMa_floorDiv l dC dI dA xx 1000000000 (by omega) (by omega) (by omega) H.size) (va_cwS 2 hts (gdT wt3_147 wt3_148 wt1_16 wt3_149) rfl rfl rfl ⟨by decide, by decide, by decide +kernel⟩ ⟨by decide, by decide⟩) (preS hK hP hD hS hA XN_ok trivial [] rfl rfl) rfl rfl hl.1 rfl (lv_room (Nat.le_of_ble_eq_true rfl)) dWh_takeAway_65 ⟨Nat.zero_le _, Nat.zero_le _⟩) hP hD hS hA [] [0, 1, 2, 3] rfl (fun v_ => wWh dA a g (up F9 (pl + i) r55) u (wWh dA b h G v [])) (fun _ => rfl) (wWh dA a g (up F9 (pl + i) r55) u (wWh dA b h G v [])) rfl (fun _ => rfl) [a, g, b, h] rfl (fun _ => rfl) (fun _ => rfl) (fun r65 u_ H locs hq65 hP hD hS => ?_)
        have hP : va_P (dC, dI) vwCl (wWh dA a g (up F9 (pl + i) r55) u (wWh dA b h G v [])) H := hP
        have hD : va_D A (wWh dA a g (up F9 (pl + i) r55) u (wWh dA b h G v [])) := hD
        have hq65 : r65 = xx / 1000000000 := hq65
        have hTs := ta_s hJ hdi hgi htm
        rw [← e_xx, ← hq55, ← hq65] at hTs
        refine lv_lstore (lv' := [(4, .long (iL r65)), (6, .int (iI i)), (0, .ref a), (1, .ref b), (2, .int (iI tm)), (3, .int (iI pl))]) hx hb dWh_takeAway_68 hl (by decide) rfl (fun ls hl => ?_)
        refine lv_iinc (k := 1) (lv' := [(6, .int (iI (i + 1))), (4, .long (iL r65)), (0, .ref a), (1, .ref b), (2, .int (iI tm)), (3, .int (iI pl))]) (v := iI (i + 1)) hx hb dWh_takeAway_70 hl rfl (iI_add _ _).symm (by decide) rfl (fun ls hl => ?_)
        refine lv_goto (tgt := 6) hx hb dWh_takeAway_73 (by decide) ?_
        exact ih6 (up F9 (pl + i) r55) r65 (i + 1) H locs ls (by omega) (by exact hTs) (by omega) hP hD hS (lv_sub hl [0, 1, 2, 3, 4, 5] rfl)
  exact L6 _ F 0 0 H locs ls (by omega) (by exact ta_0) (Nat.lt_succ_self _) hP hD hS (lv_sub hl [0, 1, 2, 3, 4, 5] rfl)
