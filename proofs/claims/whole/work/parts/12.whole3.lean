theorem dWh_guessMultiple_0 : decode prog_7_method_18_code 0 = .ok (.aload_n 1, 1) := by decide +kernel
theorem dWh_guessMultiple_1 : decode prog_7_method_18_code 1 = .ok (.getfield 13, 3) := by decide +kernel
theorem dWh_guessMultiple_4 : decode prog_7_method_18_code 4 = .ok (.istore_n 3, 1) := by decide +kernel
theorem dWh_guessMultiple_5 : decode prog_7_method_18_code 5 = .ok (.aload_n 1, 1) := by decide +kernel
theorem dWh_guessMultiple_6 : decode prog_7_method_18_code 6 = .ok (.getfield 9, 3) := by decide +kernel
theorem dWh_guessMultiple_9 : decode prog_7_method_18_code 9 = .ok (.iload_n 3, 1) := by decide +kernel
theorem dWh_guessMultiple_10 : decode prog_7_method_18_code 10 = .ok (.iconst 1, 1) := by decide +kernel
theorem dWh_guessMultiple_11 : decode prog_7_method_18_code 11 = .ok (.isub, 1) := by decide +kernel
theorem dWh_guessMultiple_12 : decode prog_7_method_18_code 12 = .ok (.iaload, 1) := by decide +kernel
theorem dWh_guessMultiple_13 : decode prog_7_method_18_code 13 = .ok (.i2l, 1) := by decide +kernel
theorem dWh_guessMultiple_14 : decode prog_7_method_18_code 14 = .ok (.lstore 4, 2) := by decide +kernel
theorem dWh_guessMultiple_16 : decode prog_7_method_18_code 16 = .ok (.iload_n 3, 1) := by decide +kernel
theorem dWh_guessMultiple_17 : decode prog_7_method_18_code 17 = .ok (.iconst 1, 1) := by decide +kernel
theorem dWh_guessMultiple_18 : decode prog_7_method_18_code 18 = .ok (.if_icmp .le 15, 3) := by decide +kernel
theorem dWh_guessMultiple_21 : decode prog_7_method_18_code 21 = .ok (.aload_n 1, 1) := by decide +kernel
theorem dWh_guessMultiple_22 : decode prog_7_method_18_code 22 = .ok (.getfield 9, 3) := by decide +kernel
theorem dWh_guessMultiple_25 : decode prog_7_method_18_code 25 = .ok (.iload_n 3, 1) := by decide +kernel
theorem dWh_guessMultiple_26 : decode prog_7_method_18_code 26 = .ok (.iconst 2, 1) := by decide +kernel
theorem dWh_guessMultiple_27 : decode prog_7_method_18_code 27 = .ok (.isub, 1) := by decide +kernel
theorem dWh_guessMultiple_28 : decode prog_7_method_18_code 28 = .ok (.iaload, 1) := by decide +kernel
theorem dWh_guessMultiple_29 : decode prog_7_method_18_code 29 = .ok (.i2l, 1) := by decide +kernel
theorem dWh_guessMultiple_30 : decode prog_7_method_18_code 30 = .ok (.goto 4, 3) := by decide +kernel
theorem dWh_guessMultiple_33 : decode prog_7_method_18_code 33 = .ok (.lconst 0, 1) := by decide +kernel
theorem dWh_guessMultiple_34 : decode prog_7_method_18_code 34 = .ok (.lstore 6, 2) := by decide +kernel
theorem dWh_guessMultiple_36 : decode prog_7_method_18_code 36 = .ok (.iload_n 3, 1) := by decide +kernel
theorem dWh_guessMultiple_37 : decode prog_7_method_18_code 37 = .ok (.iconst 1, 1) := by decide +kernel
theorem dWh_guessMultiple_38 : decode prog_7_method_18_code 38 = .ok (.if_icmp .le 17, 3) := by decide +kernel
theorem dWh_guessMultiple_41 : decode prog_7_method_18_code 41 = .ok (.aload_n 0, 1) := by decide +kernel
theorem dWh_guessMultiple_42 : decode prog_7_method_18_code 42 = .ok (.getfield 9, 3) := by decide +kernel
theorem dWh_guessMultiple_45 : decode prog_7_method_18_code 45 = .ok (.iload_n 2, 1) := by decide +kernel
theorem dWh_guessMultiple_46 : decode prog_7_method_18_code 46 = .ok (.iload_n 3, 1) := by decide +kernel
theorem dWh_guessMultiple_47 : decode prog_7_method_18_code 47 = .ok (.iadd, 1) := by decide +kernel
theorem dWh_guessMultiple_48 : decode prog_7_method_18_code 48 = .ok (.iconst 2, 1) := by decide +kernel
theorem dWh_guessMultiple_49 : decode prog_7_method_18_code 49 = .ok (.isub, 1) := by decide +kernel
theorem dWh_guessMultiple_50 : decode prog_7_method_18_code 50 = .ok (.iaload, 1) := by decide +kernel
theorem dWh_guessMultiple_51 : decode prog_7_method_18_code 51 = .ok (.i2l, 1) := by decide +kernel
theorem dWh_guessMultiple_52 : decode prog_7_method_18_code 52 = .ok (.goto 4, 3) := by decide +kernel
theorem dWh_guessMultiple_55 : decode prog_7_method_18_code 55 = .ok (.lconst 0, 1) := by decide +kernel
theorem dWh_guessMultiple_56 : decode prog_7_method_18_code 56 = .ok (.lstore 8, 2) := by decide +kernel
theorem dWh_guessMultiple_58 : decode prog_7_method_18_code 58 = .ok (.aload_n 0, 1) := by decide +kernel
theorem dWh_guessMultiple_59 : decode prog_7_method_18_code 59 = .ok (.getfield 9, 3) := by decide +kernel
theorem dWh_guessMultiple_62 : decode prog_7_method_18_code 62 = .ok (.iload_n 2, 1) := by decide +kernel
theorem dWh_guessMultiple_63 : decode prog_7_method_18_code 63 = .ok (.iload_n 3, 1) := by decide +kernel
theorem dWh_guessMultiple_64 : decode prog_7_method_18_code 64 = .ok (.iadd, 1) := by decide +kernel
theorem dWh_guessMultiple_65 : decode prog_7_method_18_code 65 = .ok (.iaload, 1) := by decide +kernel
theorem dWh_guessMultiple_66 : decode prog_7_method_18_code 66 = .ok (.i2l, 1) := by decide +kernel
theorem dWh_guessMultiple_67 : decode prog_7_method_18_code 67 = .ok (.ldc2_w 46, 3) := by decide +kernel
theorem dWh_guessMultiple_70 : decode prog_7_method_18_code 70 = .ok (.lmul, 1) := by decide +kernel
theorem dWh_guessMultiple_71 : decode prog_7_method_18_code 71 = .ok (.aload_n 0, 1) := by decide +kernel
theorem dWh_guessMultiple_72 : decode prog_7_method_18_code 72 = .ok (.getfield 9, 3) := by decide +kernel
theorem dWh_guessMultiple_75 : decode prog_7_method_18_code 75 = .ok (.iload_n 2, 1) := by decide +kernel
theorem dWh_guessMultiple_76 : decode prog_7_method_18_code 76 = .ok (.iload_n 3, 1) := by decide +kernel
theorem dWh_guessMultiple_77 : decode prog_7_method_18_code 77 = .ok (.iadd, 1) := by decide +kernel
theorem dWh_guessMultiple_78 : decode prog_7_method_18_code 78 = .ok (.iconst 1, 1) := by decide +kernel
theorem dWh_guessMultiple_79 : decode prog_7_method_18_code 79 = .ok (.isub, 1) := by decide +kernel
theorem dWh_guessMultiple_80 : decode prog_7_method_18_code 80 = .ok (.iaload, 1) := by decide +kernel
theorem dWh_guessMultiple_81 : decode prog_7_method_18_code 81 = .ok (.i2l, 1) := by decide +kernel
theorem dWh_guessMultiple_82 : decode prog_7_method_18_code 82 = .ok (.ladd, 1) := by decide +kernel
theorem dWh_guessMultiple_83 : decode prog_7_method_18_code 83 = .ok (.lstore 10, 2) := by decide +kernel
theorem dWh_guessMultiple_85 : decode prog_7_method_18_code 85 = .ok (.lload 10, 2) := by decide +kernel
theorem dWh_guessMultiple_87 : decode prog_7_method_18_code 87 = .ok (.lload 4, 2) := by decide +kernel
theorem dWh_guessMultiple_89 : decode prog_7_method_18_code 89 = .ok (.ldiv, 1) := by decide +kernel
theorem dWh_guessMultiple_90 : decode prog_7_method_18_code 90 = .ok (.lstore 12, 2) := by decide +kernel
theorem dWh_guessMultiple_92 : decode prog_7_method_18_code 92 = .ok (.lload 10, 2) := by decide +kernel
theorem dWh_guessMultiple_94 : decode prog_7_method_18_code 94 = .ok (.lload 4, 2) := by decide +kernel
theorem dWh_guessMultiple_96 : decode prog_7_method_18_code 96 = .ok (.lrem, 1) := by decide +kernel
theorem dWh_guessMultiple_97 : decode prog_7_method_18_code 97 = .ok (.lstore 14, 2) := by decide +kernel
theorem dWh_guessMultiple_99 : decode prog_7_method_18_code 99 = .ok (.iconst 0, 1) := by decide +kernel
theorem dWh_guessMultiple_100 : decode prog_7_method_18_code 100 = .ok (.istore 16, 2) := by decide +kernel
theorem dWh_guessMultiple_102 : decode prog_7_method_18_code 102 = .ok (.iload 16, 2) := by decide +kernel
theorem dWh_guessMultiple_104 : decode prog_7_method_18_code 104 = .ok (.iconst 4, 1) := by decide +kernel
theorem dWh_guessMultiple_105 : decode prog_7_method_18_code 105 = .ok (.if_icmp .ge 58, 3) := by decide +kernel
theorem dWh_guessMultiple_108 : decode prog_7_method_18_code 108 = .ok (.lload 14, 2) := by decide +kernel
theorem dWh_guessMultiple_110 : decode prog_7_method_18_code 110 = .ok (.ldc2_w 46, 3) := by decide +kernel
theorem dWh_guessMultiple_113 : decode prog_7_method_18_code 113 = .ok (.lcmp, 1) := by decide +kernel
theorem dWh_guessMultiple_114 : decode prog_7_method_18_code 114 = .ok (.ifCond .ge 49, 3) := by decide +kernel
theorem dWh_guessMultiple_117 : decode prog_7_method_18_code 117 = .ok (.lload 12, 2) := by decide +kernel
theorem dWh_guessMultiple_119 : decode prog_7_method_18_code 119 = .ok (.ldc2_w 46, 3) := by decide +kernel
theorem dWh_guessMultiple_122 : decode prog_7_method_18_code 122 = .ok (.lcmp, 1) := by decide +kernel
theorem dWh_guessMultiple_123 : decode prog_7_method_18_code 123 = .ok (.ifCond .ge 21, 3) := by decide +kernel
theorem dWh_guessMultiple_126 : decode prog_7_method_18_code 126 = .ok (.lload 12, 2) := by decide +kernel
theorem dWh_guessMultiple_128 : decode prog_7_method_18_code 128 = .ok (.lload 6, 2) := by decide +kernel
theorem dWh_guessMultiple_130 : decode prog_7_method_18_code 130 = .ok (.lmul, 1) := by decide +kernel
theorem dWh_guessMultiple_131 : decode prog_7_method_18_code 131 = .ok (.lload 14, 2) := by decide +kernel
theorem dWh_guessMultiple_133 : decode prog_7_method_18_code 133 = .ok (.ldc2_w 46, 3) := by decide +kernel
theorem dWh_guessMultiple_136 : decode prog_7_method_18_code 136 = .ok (.lmul, 1) := by decide +kernel
theorem dWh_guessMultiple_137 : decode prog_7_method_18_code 137 = .ok (.lload 8, 2) := by decide +kernel
theorem dWh_guessMultiple_139 : decode prog_7_method_18_code 139 = .ok (.ladd, 1) := by decide +kernel
theorem dWh_guessMultiple_140 : decode prog_7_method_18_code 140 = .ok (.lcmp, 1) := by decide +kernel
theorem dWh_guessMultiple_141 : decode prog_7_method_18_code 141 = .ok (.ifCond .le 22, 3) := by decide +kernel
theorem dWh_guessMultiple_144 : decode prog_7_method_18_code 144 = .ok (.lload 12, 2) := by decide +kernel
theorem dWh_guessMultiple_146 : decode prog_7_method_18_code 146 = .ok (.lconst 1, 1) := by decide +kernel
theorem dWh_guessMultiple_147 : decode prog_7_method_18_code 147 = .ok (.lsub, 1) := by decide +kernel
theorem dWh_guessMultiple_148 : decode prog_7_method_18_code 148 = .ok (.lstore 12, 2) := by decide +kernel
theorem dWh_guessMultiple_150 : decode prog_7_method_18_code 150 = .ok (.lload 14, 2) := by decide +kernel
theorem dWh_guessMultiple_152 : decode prog_7_method_18_code 152 = .ok (.lload 4, 2) := by decide +kernel
theorem dWh_guessMultiple_154 : decode prog_7_method_18_code 154 = .ok (.ladd, 1) := by decide +kernel
theorem dWh_guessMultiple_155 : decode prog_7_method_18_code 155 = .ok (.lstore 14, 2) := by decide +kernel
theorem dWh_guessMultiple_157 : decode prog_7_method_18_code 157 = .ok (.iinc 16 1, 3) := by decide +kernel
theorem dWh_guessMultiple_160 : decode prog_7_method_18_code 160 = .ok (.goto (-58), 3) := by decide +kernel
theorem dWh_guessMultiple_163 : decode prog_7_method_18_code 163 = .ok (.lload 12, 2) := by decide +kernel
theorem dWh_guessMultiple_165 : decode prog_7_method_18_code 165 = .ok (.l2i, 1) := by decide +kernel
theorem dWh_guessMultiple_166 : decode prog_7_method_18_code 166 = .ok (.ireturn, 1) := by decide +kernel
abbrev qWh_guessMultiple (dC : Nat → ClassId) (dI : Nat → Nat → Nat) (dA : Nat → ClassId) (a : Nat) (g : Nat) (F : Int → Int) (u : Int) (b : Nat) (h : Nat) (G : Int → Int) (v : Int) (M : Int) (pl : Int) (A : Nat → Prop) : Array Value → State → Outcome → State → Prop := QI (dC, dI) vwCl (tyA dA) (fun (r : Int) (v_ : Unit) => (r = VL 1000000000 (sh F pl) (v + 1) / M ∨ r = VL 1000000000 (sh F pl) (v + 1) / M + 1) ∧ 0 ≤ r ∧ r < 1000000000) (fun (v_ : Unit) => wWh dA a g F u (wWh dA b h G v [])) A
abbrev rmWh_guessMultiple : Room := { frames := 0, cells := 0, slots := 0, locals := 0 }
set_option maxRecDepth 100000 in
set_option maxHeartbeats 1000000 in
theorem cWh_guessMultiple (l : Launch) (dC : Nat → ClassId) (dI : Nat → Nat → Nat) (dA : Nat → ClassId) (a : Nat) (g : Nat) (F : Int → Int) (u : Int) (b : Nat) (h : Nat) (G : Int → Int) (v : Int) (M : Int) (pl : Int) (hV : WR G v M) (hv1 : 1 ≤ v ∧ 500000000 ≤ G (v - 1)) (hpl : 0 ≤ pl ∧ pl + v < 32) (hdf : ∀ j, 0 ≤ j → j ≤ v → 0 ≤ F (pl + j) ∧ F (pl + j) < 1000000000) (hR : VL 1000000000 (sh F pl) (v + 1) < 1000000000 * M) (sz : Nat) : Met l yWh_guessMultiple wsWh_guessMultiple rmWh_guessMultiple (PC (dC, dI) vwCl (tyA dA) XN [.ref a, .ref b, .int (iI pl)] (wWh dA a g F u (wWh dA b h G v [])) sz) (qWh_guessMultiple dC dI dA a g F u b h G v M pl (va_A (wWh dA a g F u (wWh dA b h G v [])) sz)) 0 0 (va_A (wWh dA a g F u (wWh dA b h G v [])) sz) := by
  refine met_of (cc := prog_7_method_18_code) (maxL := 17) (ret := (some .int)) (Qc := qWh_guessMultiple dC dI dA a g F u b h G v M pl) XN_ok (by decide) rfl (Nat.le_of_ble_eq_true rfl) ?_
  intro p e s m below meth c ls A hx hb hr hml hown hts hlocks hnm hK hP hD hA hX hS hl
  have hl : lv_has ls 17 [(0, .ref a), (1, .ref b), (2, .int (iI pl))] := hl
  have hown : s.vm.findClass "MacroReckoner$Whole" = some m.cls := hown
  obtain ⟨H, hH⟩ : ∃ H : Heap, H = s.heap := ⟨_, rfl⟩
  obtain ⟨locs, hlo⟩ : ∃ L : List Loc, L = [] := ⟨_, rfl⟩
  have hP : va_P (dC, dI) vwCl (wWh dA a g F u (wWh dA b h G v [])) H := hH ▸ hP
  have hS : va_S A s.heap H locs := by rw [hH, hlo]; exact hS
  suffices hgo : W p l e rmWh_guessMultiple s m [.ref a, .ref b, .int (iI pl)].toArray below meth c H locs 0 0 (MQ below (qWh_guessMultiple dC dI dA a g F u b h G v M pl A) [.ref a, .ref b, .int (iI pl)].toArray s 0 0 A) (F0 m 0 ls []) by rw [hH, hlo] at hgo; exact hgo
  clear hH hlo
  have hv := hV.1
  have hfi := hV.2.1 (v - 1) (by omega) (by omega)
  have hdv := hdf v (by omega) (by omega)
  have hdw := hdf (v - 1) (by omega) (by omega)
  rw [show pl + (v - 1) = pl + v - 1 by omega] at hdw
  refine lv_aload_n hx hb dWh_guessMultiple_0 rfl (lv_at hl 1 rfl) ?_
  refine va_get (D := (dC, dI)) (ci := 5) (v := .int (iI v)) (C := "MacroReckoner$Whole") (T := TWh) (N := 2) hx hb hts inWh hown hK hP 2 rfl rfl 1 (by decide) (hts _ wt1_93) (fun _ h9 => h9) rfl dWh_guessMultiple_1 ?_
  refine lv_istore_n (lv' := [(3, .int (iI v)), (0, .ref a), (1, .ref b), (2, .int (iI pl))]) hx hb dWh_guessMultiple_4 rfl hl (by decide) rfl (fun ls hl => ?_)
  refine lv_aload_n hx hb dWh_guessMultiple_5 rfl (lv_at hl 2 rfl) ?_
  refine va_get (D := (dC, dI)) (ci := 5) (v := .ref h) (C := "MacroReckoner$Whole") (T := TWh) (N := 2) hx hb hts inWh hown hK hP 2 rfl rfl 0 (by decide) (hts _ wt1_92) (fun _ h9 => h9) rfl dWh_guessMultiple_6 ?_
  refine lv_iload_n hx hb dWh_guessMultiple_9 rfl (lv_at hl 0 rfl) ?_
  refine lv_iconst (v := iI 1) hx hb dWh_guessMultiple_10 rfl ?_
  refine iv_isub hx hb dWh_guessMultiple_11 ?_
  refine iv_iald hx hb hK hP 3 0 rfl rfl (by decide) dWh_guessMultiple_12 (by omega) (by omega) ?_
  refine iv_i2l hx hb dWh_guessMultiple_13 ⟨by omega, by omega⟩ ?_
  refine lv_lstore (lv' := [(4, .long (iL (G (v - 1)))), (3, .int (iI v)), (0, .ref a), (1, .ref b), (2, .int (iI pl))]) hx hb dWh_guessMultiple_14 hl (by decide) rfl (fun ls hl => ?_)
  refine lv_iload_n hx hb dWh_guessMultiple_16 rfl (lv_at hl 1 rfl) ?_
  refine lv_iconst (v := iI 1) hx hb dWh_guessMultiple_17 rfl ?_
  refine iv_icmp_le (tgt := 33) hx hb dWh_guessMultiple_18 (by decide) ⟨by omega, by omega⟩ ⟨by decide, by decide⟩ (fun hc18 => ?_) (fun hc18 => ?_)
  · refine lv_lconst (v := iL 0) hx hb dWh_guessMultiple_33 rfl ?_
    refine lv_lstore (lv' := [(6, .long (iL 0)), (4, .long (iL (G (v - 1)))), (3, .int (iI v)), (0, .ref a), (1, .ref b), (2, .int (iI pl))]) hx hb dWh_guessMultiple_34 hl (by decide) rfl (fun ls hl => ?_)
    obtain ⟨sc, e_sc⟩ : ∃ z : Int, z = 0 := ⟨_, rfl⟩
    rw [← e_sc] at hl
    refine lv_iload_n hx hb dWh_guessMultiple_36 rfl (lv_at hl 2 rfl) ?_
    refine lv_iconst (v := iI 1) hx hb dWh_guessMultiple_37 rfl ?_
    refine iv_icmp_le (tgt := 55) hx hb dWh_guessMultiple_38 (by decide) ⟨by omega, by omega⟩ ⟨by decide, by decide⟩ (fun hc38 => ?_) (fun hc38 => absurd hc38 (by omega))
    refine lv_lconst (v := iL 0) hx hb dWh_guessMultiple_55 rfl ?_
    refine lv_lstore (lv' := [(8, .long (iL 0)), (6, .long (iL sc)), (4, .long (iL (G (v - 1)))), (3, .int (iI v)), (0, .ref a), (1, .ref b), (2, .int (iI pl))]) hx hb dWh_guessMultiple_56 hl (by decide) rfl (fun ls hl => ?_)
    obtain ⟨th, e_th⟩ : ∃ z : Int, z = 0 := ⟨_, rfl⟩
    rw [← e_th] at hl
    have hPP : gmP (G (v - 1)) sc (F (pl + v) * 1000000000 + F (pl + v - 1)) th (VL 1000000000 (sh F pl) (v + 1) / M) ∧ (0 ≤ sc ∧ sc < 1000000000) ∧ 0 ≤ th ∧ th < 1000000000 := by rw [e_sc, e_th]; first | exact ⟨gm_2 hV (by omega) hv1.2 hdf hR, hgs, hds⟩ | exact ⟨gm_1 hV (by omega) hv1.2 hdf hR, by omega, by omega⟩
    refine lv_aload_n hx hb dWh_guessMultiple_58 rfl (lv_at hl 4 rfl) ?_
    refine va_get (D := (dC, dI)) (ci := 5) (v := .ref g) (C := "MacroReckoner$Whole") (T := TWh) (N := 2) hx hb hts inWh hown hK hP 0 rfl rfl 0 (by decide) (hts _ wt1_92) (fun _ h9 => h9) rfl dWh_guessMultiple_59 ?_
    refine lv_iload_n hx hb dWh_guessMultiple_62 rfl (lv_at hl 6 rfl) ?_
    refine lv_iload_n hx hb dWh_guessMultiple_63 rfl (lv_at hl 3 rfl) ?_
    refine iv_iadd hx hb dWh_guessMultiple_64 ?_
    refine iv_iald hx hb hK hP 1 0 rfl rfl (by decide) dWh_guessMultiple_65 (by omega) (by omega) ?_
    refine iv_i2l hx hb dWh_guessMultiple_66 ⟨by omega, by omega⟩ ?_
    refine lv_ldc2 (v := iL 1000000000) hx hb hown ((by decide : (1000000000 : Int64) = iL 1000000000) ▸ hts _ wt3_21) dWh_guessMultiple_67 ?_
    refine iv_lmul hx hb dWh_guessMultiple_70 ?_
    refine lv_aload_n hx hb dWh_guessMultiple_71 rfl (lv_at hl 4 rfl) ?_
    refine va_get (D := (dC, dI)) (ci := 5) (v := .ref g) (C := "MacroReckoner$Whole") (T := TWh) (N := 2) hx hb hts inWh hown hK hP 0 rfl rfl 0 (by decide) (hts _ wt1_92) (fun _ h9 => h9) rfl dWh_guessMultiple_72 ?_
    refine lv_iload_n hx hb dWh_guessMultiple_75 rfl (lv_at hl 6 rfl) ?_
    refine lv_iload_n hx hb dWh_guessMultiple_76 rfl (lv_at hl 3 rfl) ?_
    refine iv_iadd hx hb dWh_guessMultiple_77 ?_
    refine lv_iconst (v := iI 1) hx hb dWh_guessMultiple_78 rfl ?_
    refine iv_isub hx hb dWh_guessMultiple_79 ?_
    refine iv_iald hx hb hK hP 1 0 rfl rfl (by decide) dWh_guessMultiple_80 (by omega) (by omega) ?_
    refine iv_i2l hx hb dWh_guessMultiple_81 ⟨by omega, by omega⟩ ?_
    refine iv_ladd hx hb dWh_guessMultiple_82 ?_
    refine lv_lstore (lv' := [(10, .long (iL (((F (pl + v)) * 1000000000) + (F ((pl + v) - 1))))), (8, .long (iL th)), (6, .long (iL sc)), (4, .long (iL (G (v - 1)))), (3, .int (iI v)), (0, .ref a), (1, .ref b), (2, .int (iI pl))]) hx hb dWh_guessMultiple_83 hl (by decide) rfl (fun ls hl => ?_)
    obtain ⟨ld, e_ld⟩ : ∃ z : Int, z = ((F (pl + v)) * 1000000000) + (F ((pl + v) - 1)) := ⟨_, rfl⟩
    rw [← e_ld] at hl
    have hld : 0 ≤ ld ∧ ld ≤ 2000000000000000000 := by omega
    rw [← e_ld] at hPP
    refine lv_lload hx hb dWh_guessMultiple_85 (lv_at hl 0 rfl) ?_
    refine lv_lload hx hb dWh_guessMultiple_87 (lv_at hl 3 rfl) ?_
    refine iv_ldiv hx hb dWh_guessMultiple_89 (by omega) ⟨by omega, by omega⟩ (by omega) ⟨by omega, by omega⟩ ?_
    refine lv_lstore (lv' := [(12, .long (iL (ld / (G (v - 1))))), (10, .long (iL ld)), (8, .long (iL th)), (6, .long (iL sc)), (4, .long (iL (G (v - 1)))), (3, .int (iI v)), (0, .ref a), (1, .ref b), (2, .int (iI pl))]) hx hb dWh_guessMultiple_90 hl (by decide) rfl (fun ls hl => ?_)
    refine lv_lload hx hb dWh_guessMultiple_92 (lv_at hl 1 rfl) ?_
    refine lv_lload hx hb dWh_guessMultiple_94 (lv_at hl 4 rfl) ?_
    refine iv_lrem hx hb dWh_guessMultiple_96 (by omega) ⟨by omega, by omega⟩ (by omega) ⟨by omega, by omega⟩ ?_
    refine lv_lstore (lv' := [(14, .long (iL (ld % (G (v - 1))))), (12, .long (iL (ld / (G (v - 1))))), (10, .long (iL ld)), (8, .long (iL th)), (6, .long (iL sc)), (4, .long (iL (G (v - 1)))), (3, .int (iI v)), (0, .ref a), (1, .ref b), (2, .int (iI pl))]) hx hb dWh_guessMultiple_97 hl (by decide) rfl (fun ls hl => ?_)
    refine lv_iconst (v := iI 0) hx hb dWh_guessMultiple_99 rfl ?_
    refine lv_istore (lv' := [(16, .int (iI 0)), (14, .long (iL (ld % (G (v - 1))))), (12, .long (iL (ld / (G (v - 1))))), (10, .long (iL ld)), (8, .long (iL th)), (6, .long (iL sc)), (4, .long (iL (G (v - 1)))), (3, .int (iI v)), (0, .ref a), (1, .ref b), (2, .int (iI pl))]) hx hb dWh_guessMultiple_100 hl (by decide) rfl (fun ls hl => ?_)
    have L102 : ∀ (n : Nat) (gs : Int) (rs : Int) (t9 : Int) (H : Heap) (locs : List Loc) (ls : Array Slot), (gmJ (G (v - 1)) ld (VL 1000000000 (sh F pl) (v + 1) / M) gs rs t9) → (5 - t9).toNat < n → va_P (dC, dI) vwCl (wWh dA a g F u (wWh dA b h G v [])) H → va_D A (wWh dA a g F u (wWh dA b h G v [])) → va_S A s.heap H locs → lv_has ls 17 [(16, .int (iI t9)), (14, .long (iL rs)), (12, .long (iL gs)), (10, .long (iL ld)), (8, .long (iL th)), (6, .long (iL sc)), (4, .long (iL (G (v - 1)))), (3, .int (iI v)), (0, .ref a), (1, .ref b), (2, .int (iI pl))] → W p l e rmWh_guessMultiple s m [.ref a, .ref b, .int (iI pl)].toArray below meth c H locs 0 0 (MQ below (qWh_guessMultiple dC dI dA a g F u b h G v M pl A) [.ref a, .ref b, .int (iI pl)].toArray s 0 0 A) (F0 m 102 ls []) := by
      intro n
      induction n with
      | zero => intro gs rs t9 H locs ls hJ hn; omega
      | succ n ih =>
        intro gs rs t9 H locs ls hJ hn hP hD hS hl
        have hj1 := hJ.1
        have hj2 := hJ.2.2.1
        have hj3 := hJ.2.2.2.1
        have hj4 := hJ.2.2.2.2.1
        have hj5 := hJ.2.2.2.2.2.2
        have hj6 := hJ.2.1
        have hq0 := hPP.1.2.2.1
        have hj7 : rs ≤ ld := by have := Int.mul_nonneg (show 0 ≤ gs by omega) (show 0 ≤ G (v - 1) by omega); omega
        have ih102 := ih
        refine lv_iload hx hb dWh_guessMultiple_102 (lv_at hl 0 rfl) ?_
        refine lv_iconst (v := iI 4) hx hb dWh_guessMultiple_104 rfl ?_
        refine iv_icmp_ge (tgt := 163) hx hb dWh_guessMultiple_105 (by decide) ⟨by omega, by omega⟩ ⟨by decide, by decide⟩ (fun hc105 => absurd hc105 (by omega)) (fun hc105 => ?_)
        refine lv_lload hx hb dWh_guessMultiple_108 (lv_at hl 1 rfl) ?_
        refine lv_ldc2 (v := iL 1000000000) hx hb hown ((by decide : (1000000000 : Int64) = iL 1000000000) ▸ hts _ wt3_21) dWh_guessMultiple_110 ?_
        refine iv_lcmp_ge (tgt := 163) hx hb dWh_guessMultiple_113 dWh_guessMultiple_114 (by decide) ⟨by omega, by omega⟩ ⟨by decide, by decide⟩ (fun hc114 => ?_) (fun hc114 => ?_)
        · refine lv_lload hx hb dWh_guessMultiple_163 (lv_at hl 2 rfl) ?_
          refine iv_l2i hx hb dWh_guessMultiple_165 ?_
          exact rt_i hx hb hr hlocks hK hS dWh_guessMultiple_166 () hP hD (show (gs = VL 1000000000 (sh F pl) (v + 1) / M ∨ gs = VL 1000000000 (sh F pl) (v + 1) / M + 1) ∧ 0 ≤ gs ∧ gs < 1000000000 from by exact gm_e hPP.1 ⟨hv1.2, hfi.2⟩ hPP.2.1 hPP.2.2.1 hJ (by omega))
        · refine lv_lload hx hb dWh_guessMultiple_117 (lv_at hl 2 rfl) ?_
          refine lv_ldc2 (v := iL 1000000000) hx hb hown ((by decide : (1000000000 : Int64) = iL 1000000000) ▸ hts _ wt3_21) dWh_guessMultiple_119 ?_
          refine iv_lcmp_ge (tgt := 144) hx hb dWh_guessMultiple_122 dWh_guessMultiple_123 (by decide) ⟨by omega, by omega⟩ ⟨by decide, by decide⟩ (fun hc123 => ?_) (fun hc123 => ?_)
          · refine lv_lload hx hb dWh_guessMultiple_144 (lv_at hl 2 rfl) ?_
            refine lv_lconst (v := iL 1) hx hb dWh_guessMultiple_146 rfl ?_
            refine iv_lsub hx hb dWh_guessMultiple_147 ?_
            refine lv_lstore (lv' := [(12, .long (iL (gs - 1))), (16, .int (iI t9)), (14, .long (iL rs)), (10, .long (iL ld)), (8, .long (iL th)), (6, .long (iL sc)), (4, .long (iL (G (v - 1)))), (3, .int (iI v)), (0, .ref a), (1, .ref b), (2, .int (iI pl))]) hx hb dWh_guessMultiple_148 hl (by decide) rfl (fun ls hl => ?_)
            refine lv_lload hx hb dWh_guessMultiple_150 (lv_at hl 2 rfl) ?_
            refine lv_lload hx hb dWh_guessMultiple_152 (lv_at hl 6 rfl) ?_
            refine iv_ladd hx hb dWh_guessMultiple_154 ?_
            refine lv_lstore (lv' := [(14, .long (iL (rs + (G (v - 1))))), (12, .long (iL (gs - 1))), (16, .int (iI t9)), (10, .long (iL ld)), (8, .long (iL th)), (6, .long (iL sc)), (4, .long (iL (G (v - 1)))), (3, .int (iI v)), (0, .ref a), (1, .ref b), (2, .int (iI pl))]) hx hb dWh_guessMultiple_155 hl (by decide) rfl (fun ls hl => ?_)
            refine lv_iinc (k := 2) (lv' := [(16, .int (iI (t9 + 1))), (14, .long (iL (rs + (G (v - 1))))), (12, .long (iL (gs - 1))), (10, .long (iL ld)), (8, .long (iL th)), (6, .long (iL sc)), (4, .long (iL (G (v - 1)))), (3, .int (iI v)), (0, .ref a), (1, .ref b), (2, .int (iI pl))]) (v := iI (t9 + 1)) hx hb dWh_guessMultiple_157 hl rfl (iI_add _ _).symm (by decide) rfl (fun ls hl => ?_)
            refine lv_goto (tgt := 102) hx hb dWh_guessMultiple_160 (by decide) ?_
            exact ih102 (gs - 1) (rs + (G (v - 1))) (t9 + 1) H locs ls (by exact gm_s hPP.1 hv1.2 hPP.2.1.1 hJ hc114 (by omega)) (by omega) hP hD hS (lv_sub hl [0, 1, 2, 3, 4, 5, 6, 7, 8, 9, 10] rfl)
          · have hm1 := Int.mul_le_mul_of_nonneg_right (show gs ≤ 999999999 by omega) hPP.2.1.1
            have hm2 := Int.mul_nonneg (show 0 ≤ gs by omega) hPP.2.1.1
            refine lv_lload hx hb dWh_guessMultiple_126 (lv_at hl 2 rfl) ?_
            refine lv_lload hx hb dWh_guessMultiple_128 (lv_at hl 5 rfl) ?_
            refine iv_lmul hx hb dWh_guessMultiple_130 ?_
            refine lv_lload hx hb dWh_guessMultiple_131 (lv_at hl 1 rfl) ?_
            refine lv_ldc2 (v := iL 1000000000) hx hb hown ((by decide : (1000000000 : Int64) = iL 1000000000) ▸ hts _ wt3_21) dWh_guessMultiple_133 ?_
            refine iv_lmul hx hb dWh_guessMultiple_136 ?_
            refine lv_lload hx hb dWh_guessMultiple_137 (lv_at hl 4 rfl) ?_
            refine iv_ladd hx hb dWh_guessMultiple_139 ?_
            refine iv_lcmp_le (tgt := 163) hx hb dWh_guessMultiple_140 dWh_guessMultiple_141 (by decide) ⟨by omega, by omega⟩ ⟨by omega, by omega⟩ (fun hc141 => ?_) (fun hc141 => ?_)
            · refine lv_lload hx hb dWh_guessMultiple_163 (lv_at hl 2 rfl) ?_
              refine iv_l2i hx hb dWh_guessMultiple_165 ?_
              exact rt_i hx hb hr hlocks hK hS dWh_guessMultiple_166 () hP hD (show (gs = VL 1000000000 (sh F pl) (v + 1) / M ∨ gs = VL 1000000000 (sh F pl) (v + 1) / M + 1) ∧ 0 ≤ gs ∧ gs < 1000000000 from by exact gm_e hPP.1 ⟨hv1.2, hfi.2⟩ hPP.2.1 hPP.2.2.1 hJ (by omega))
            · refine lv_lload hx hb dWh_guessMultiple_144 (lv_at hl 2 rfl) ?_
              refine lv_lconst (v := iL 1) hx hb dWh_guessMultiple_146 rfl ?_
              refine iv_lsub hx hb dWh_guessMultiple_147 ?_
              refine lv_lstore (lv' := [(12, .long (iL (gs - 1))), (16, .int (iI t9)), (14, .long (iL rs)), (10, .long (iL ld)), (8, .long (iL th)), (6, .long (iL sc)), (4, .long (iL (G (v - 1)))), (3, .int (iI v)), (0, .ref a), (1, .ref b), (2, .int (iI pl))]) hx hb dWh_guessMultiple_148 hl (by decide) rfl (fun ls hl => ?_)
              refine lv_lload hx hb dWh_guessMultiple_150 (lv_at hl 2 rfl) ?_
              refine lv_lload hx hb dWh_guessMultiple_152 (lv_at hl 6 rfl) ?_
              refine iv_ladd hx hb dWh_guessMultiple_154 ?_
              refine lv_lstore (lv' := [(14, .long (iL (rs + (G (v - 1))))), (12, .long (iL (gs - 1))), (16, .int (iI t9)), (10, .long (iL ld)), (8, .long (iL th)), (6, .long (iL sc)), (4, .long (iL (G (v - 1)))), (3, .int (iI v)), (0, .ref a), (1, .ref b), (2, .int (iI pl))]) hx hb dWh_guessMultiple_155 hl (by decide) rfl (fun ls hl => ?_)
              refine lv_iinc (k := 2) (lv' := [(16, .int (iI (t9 + 1))), (14, .long (iL (rs + (G (v - 1))))), (12, .long (iL (gs - 1))), (10, .long (iL ld)), (8, .long (iL th)), (6, .long (iL sc)), (4, .long (iL (G (v - 1)))), (3, .int (iI v)), (0, .ref a), (1, .ref b), (2, .int (iI pl))]) (v := iI (t9 + 1)) hx hb dWh_guessMultiple_157 hl rfl (iI_add _ _).symm (by decide) rfl (fun ls hl => ?_)
              refine lv_goto (tgt := 102) hx hb dWh_guessMultiple_160 (by decide) ?_
              exact ih102 (gs - 1) (rs + (G (v - 1))) (t9 + 1) H locs ls (by exact gm_s hPP.1 hv1.2 hPP.2.1.1 hJ hc114 (by omega)) (by omega) hP hD hS (lv_sub hl [0, 1, 2, 3, 4, 5, 6, 7, 8, 9, 10] rfl)
    exact L102 _ (ld / (G (v - 1))) (ld % (G (v - 1))) 0 H locs ls (by exact gm_0 hPP.1 hv1.2 hld.1) (Nat.lt_succ_self _) hP hD hS (lv_sub hl [0, 1, 2, 3, 4, 5, 6, 7, 8, 9, 10] rfl)
  · have hgs := hV.2.1 (v - 2) (by omega) (by omega)
    refine lv_aload_n hx hb dWh_guessMultiple_21 rfl (lv_at hl 3 rfl) ?_
    refine va_get (D := (dC, dI)) (ci := 5) (v := .ref h) (C := "MacroReckoner$Whole") (T := TWh) (N := 2) hx hb hts inWh hown hK hP 2 rfl rfl 0 (by decide) (hts _ wt1_92) (fun _ h9 => h9) rfl dWh_guessMultiple_22 ?_
    refine lv_iload_n hx hb dWh_guessMultiple_25 rfl (lv_at hl 1 rfl) ?_
    refine lv_iconst (v := iI 2) hx hb dWh_guessMultiple_26 rfl ?_
    refine iv_isub hx hb dWh_guessMultiple_27 ?_
    refine iv_iald hx hb hK hP 3 0 rfl rfl (by decide) dWh_guessMultiple_28 (by omega) (by omega) ?_
    refine iv_i2l hx hb dWh_guessMultiple_29 ⟨by omega, by omega⟩ ?_
    refine lv_goto (tgt := 34) hx hb dWh_guessMultiple_30 (by decide) ?_
    refine lv_lstore (lv' := [(6, .long (iL (G (v - 2)))), (4, .long (iL (G (v - 1)))), (3, .int (iI v)), (0, .ref a), (1, .ref b), (2, .int (iI pl))]) hx hb dWh_guessMultiple_34 hl (by decide) rfl (fun ls hl => ?_)
    obtain ⟨sc, e_sc⟩ : ∃ z : Int, z = G (v - 2) := ⟨_, rfl⟩
    rw [← e_sc] at hl
    refine lv_iload_n hx hb dWh_guessMultiple_36 rfl (lv_at hl 2 rfl) ?_
    refine lv_iconst (v := iI 1) hx hb dWh_guessMultiple_37 rfl ?_
    refine iv_icmp_le (tgt := 55) hx hb dWh_guessMultiple_38 (by decide) ⟨by omega, by omega⟩ ⟨by decide, by decide⟩ (fun hc38 => absurd hc38 (by omega)) (fun hc38 => ?_)
    have hds := hdf (v - 2) (by omega) (by omega)
    rw [show pl + (v - 2) = pl + v - 2 by omega] at hds
    refine lv_aload_n hx hb dWh_guessMultiple_41 rfl (lv_at hl 3 rfl) ?_
    refine va_get (D := (dC, dI)) (ci := 5) (v := .ref g) (C := "MacroReckoner$Whole") (T := TWh) (N := 2) hx hb hts inWh hown hK hP 0 rfl rfl 0 (by decide) (hts _ wt1_92) (fun _ h9 => h9) rfl dWh_guessMultiple_42 ?_
    refine lv_iload_n hx hb dWh_guessMultiple_45 rfl (lv_at hl 5 rfl) ?_
    refine lv_iload_n hx hb dWh_guessMultiple_46 rfl (lv_at hl 2 rfl) ?_
    refine iv_iadd hx hb dWh_guessMultiple_47 ?_
    refine lv_iconst (v := iI 2) hx hb dWh_guessMultiple_48 rfl ?_
    refine iv_isub hx hb dWh_guessMultiple_49 ?_
    refine iv_iald hx hb hK hP 1 0 rfl rfl (by decide) dWh_guessMultiple_50 (by omega) (by omega) ?_
    refine iv_i2l hx hb dWh_guessMultiple_51 ⟨by omega, by omega⟩ ?_
    refine lv_goto (tgt := 56) hx hb dWh_guessMultiple_52 (by decide) ?_
    refine lv_lstore (lv' := [(8, .long (iL (F ((pl + v) - 2)))), (6, .long (iL sc)), (4, .long (iL (G (v - 1)))), (3, .int (iI v)), (0, .ref a), (1, .ref b), (2, .int (iI pl))]) hx hb dWh_guessMultiple_56 hl (by decide) rfl (fun ls hl => ?_)
    obtain ⟨th, e_th⟩ : ∃ z : Int, z = F ((pl + v) - 2) := ⟨_, rfl⟩
    rw [← e_th] at hl
    have hPP : gmP (G (v - 1)) sc (F (pl + v) * 1000000000 + F (pl + v - 1)) th (VL 1000000000 (sh F pl) (v + 1) / M) ∧ (0 ≤ sc ∧ sc < 1000000000) ∧ 0 ≤ th ∧ th < 1000000000 := by rw [e_sc, e_th]; first | exact ⟨gm_2 hV (by omega) hv1.2 hdf hR, hgs, hds⟩ | exact ⟨gm_1 hV (by omega) hv1.2 hdf hR, by omega, by omega⟩
    refine lv_aload_n hx hb dWh_guessMultiple_58 rfl (lv_at hl 4 rfl) ?_
    refine va_get (D := (dC, dI)) (ci := 5) (v := .ref g) (C := "MacroReckoner$Whole") (T := TWh) (N := 2) hx hb hts inWh hown hK hP 0 rfl rfl 0 (by decide) (hts _ wt1_92) (fun _ h9 => h9) rfl dWh_guessMultiple_59 ?_
    refine lv_iload_n hx hb dWh_guessMultiple_62 rfl (lv_at hl 6 rfl) ?_
    refine lv_iload_n hx hb dWh_guessMultiple_63 rfl (lv_at hl 3 rfl) ?_
    refine iv_iadd hx hb dWh_guessMultiple_64 ?_
    refine iv_iald hx hb hK hP 1 0 rfl rfl (by decide) dWh_guessMultiple_65 (by omega) (by omega) ?_
    refine iv_i2l hx hb dWh_guessMultiple_66 ⟨by omega, by omega⟩ ?_
    refine lv_ldc2 (v := iL 1000000000) hx hb hown ((by decide : (1000000000 : Int64) = iL 1000000000) ▸ hts _ wt3_21) dWh_guessMultiple_67 ?_
    refine iv_lmul hx hb dWh_guessMultiple_70 ?_
    refine lv_aload_n hx hb dWh_guessMultiple_71 rfl (lv_at hl 4 rfl) ?_
    refine va_get (D := (dC, dI)) (ci := 5) (v := .ref g) (C := "MacroReckoner$Whole") (T := TWh) (N := 2) hx hb hts inWh hown hK hP 0 rfl rfl 0 (by decide) (hts _ wt1_92) (fun _ h9 => h9) rfl dWh_guessMultiple_72 ?_
    refine lv_iload_n hx hb dWh_guessMultiple_75 rfl (lv_at hl 6 rfl) ?_
    refine lv_iload_n hx hb dWh_guessMultiple_76 rfl (lv_at hl 3 rfl) ?_
    refine iv_iadd hx hb dWh_guessMultiple_77 ?_
    refine lv_iconst (v := iI 1) hx hb dWh_guessMultiple_78 rfl ?_
    refine iv_isub hx hb dWh_guessMultiple_79 ?_
    refine iv_iald hx hb hK hP 1 0 rfl rfl (by decide) dWh_guessMultiple_80 (by omega) (by omega) ?_
    refine iv_i2l hx hb dWh_guessMultiple_81 ⟨by omega, by omega⟩ ?_
    refine iv_ladd hx hb dWh_guessMultiple_82 ?_
    refine lv_lstore (lv' := [(10, .long (iL (((F (pl + v)) * 1000000000) + (F ((pl + v) - 1))))), (8, .long (iL th)), (6, .long (iL sc)), (4, .long (iL (G (v - 1)))), (3, .int (iI v)), (0, .ref a), (1, .ref b), (2, .int (iI pl))]) hx hb dWh_guessMultiple_83 hl (by decide) rfl (fun ls hl => ?_)
    obtain ⟨ld, e_ld⟩ : ∃ z : Int, z = ((F (pl + v)) * 1000000000) + (F ((pl + v) - 1)) := ⟨_, rfl⟩
    rw [← e_ld] at hl
    have hld : 0 ≤ ld ∧ ld ≤ 2000000000000000000 := by omega
    rw [← e_ld] at hPP
    refine lv_lload hx hb dWh_guessMultiple_85 (lv_at hl 0 rfl) ?_
    refine lv_lload hx hb dWh_guessMultiple_87 (lv_at hl 3 rfl) ?_
    refine iv_ldiv hx hb dWh_guessMultiple_89 (by omega) ⟨by omega, by omega⟩ (by omega) ⟨by omega, by omega⟩ ?_
    refine lv_lstore (lv' := [(12, .long (iL (ld / (G (v - 1))))), (10, .long (iL ld)), (8, .long (iL th)), (6, .long (iL sc)), (4, .long (iL (G (v - 1)))), (3, .int (iI v)), (0, .ref a), (1, .ref b), (2, .int (iI pl))]) hx hb dWh_guessMultiple_90 hl (by decide) rfl (fun ls hl => ?_)
    refine lv_lload hx hb dWh_guessMultiple_92 (lv_at hl 1 rfl) ?_
    refine lv_lload hx hb dWh_guessMultiple_94 (lv_at hl 4 rfl) ?_
    refine iv_lrem hx hb dWh_guessMultiple_96 (by omega) ⟨by omega, by omega⟩ (by omega) ⟨by omega, by omega⟩ ?_
    refine lv_lstore (lv' := [(14, .long (iL (ld % (G (v - 1))))), (12, .long (iL (ld / (G (v - 1))))), (10, .long (iL ld)), (8, .long (iL th)), (6, .long (iL sc)), (4, .long (iL (G (v - 1)))), (3, .int (iI v)), (0, .ref a), (1, .ref b), (2, .int (iI pl))]) hx hb dWh_guessMultiple_97 hl (by decide) rfl (fun ls hl => ?_)
    refine lv_iconst (v := iI 0) hx hb dWh_guessMultiple_99 rfl ?_
    refine lv_istore (lv' := [(16, .int (iI 0)), (14, .long (iL (ld % (G (v - 1))))), (12, .long (iL (ld / (G (v - 1))))), (10, .long (iL ld)), (8, .long (iL th)), (6, .long (iL sc)), (4, .long (iL (G (v - 1)))), (3, .int (iI v)), (0, .ref a), (1, .ref b), (2, .int (iI pl))]) hx hb dWh_guessMultiple_100 hl (by decide) rfl (fun ls hl => ?_)
    have L102 : ∀ (n : Nat) (gs : Int) (rs : Int) (t9 : Int) (H : Heap) (locs : List Loc) (ls : Array Slot), (gmJ (G (v - 1)) ld (VL 1000000000 (sh F pl) (v + 1) / M) gs rs t9) → (5 - t9).toNat < n → va_P (dC, dI) vwCl (wWh dA a g F u (wWh dA b h G v [])) H → va_D A (wWh dA a g F u (wWh dA b h G v [])) → va_S A s.heap H locs → lv_has ls 17 [(16, .int (iI t9)), (14, .long (iL rs)), (12, .long (iL gs)), (10, .long (iL ld)), (8, .long (iL th)), (6, .long (iL sc)), (4, .long (iL (G (v - 1)))), (3, .int (iI v)), (0, .ref a), (1, .ref b), (2, .int (iI pl))] → W p l e rmWh_guessMultiple s m [.ref a, .ref b, .int (iI pl)].toArray below meth c H locs 0 0 (MQ below (qWh_guessMultiple dC dI dA a g F u b h G v M pl A) [.ref a, .ref b, .int (iI pl)].toArray s 0 0 A) (F0 m 102 ls []) := by
      intro n
      induction n with
      | zero => intro gs rs t9 H locs ls hJ hn; omega
      | succ n ih =>
        intro gs rs t9 H locs ls hJ hn hP hD hS hl
        have hj1 := hJ.1
        have hj2 := hJ.2.2.1
        have hj3 := hJ.2.2.2.1
        have hj4 := hJ.2.2.2.2.1
        have hj5 := hJ.2.2.2.2.2.2
        have hj6 := hJ.2.1
        have hq0 := hPP.1.2.2.1
        have hj7 : rs ≤ ld := by have := Int.mul_nonneg (show 0 ≤ gs by omega) (show 0 ≤ G (v - 1) by omega); omega
        have ih102 := ih
        refine lv_iload hx hb dWh_guessMultiple_102 (lv_at hl 0 rfl) ?_
        refine lv_iconst (v := iI 4) hx hb dWh_guessMultiple_104 rfl ?_
        refine iv_icmp_ge (tgt := 163) hx hb dWh_guessMultiple_105 (by decide) ⟨by omega, by omega⟩ ⟨by decide, by decide⟩ (fun hc105 => absurd hc105 (by omega)) (fun hc105 => ?_)
        refine lv_lload hx hb dWh_guessMultiple_108 (lv_at hl 1 rfl) ?_
        refine lv_ldc2 (v := iL 1000000000) hx hb hown ((by decide : (1000000000 : Int64) = iL 1000000000) ▸ hts _ wt3_21) dWh_guessMultiple_110 ?_
        refine iv_lcmp_ge (tgt := 163) hx hb dWh_guessMultiple_113 dWh_guessMultiple_114 (by decide) ⟨by omega, by omega⟩ ⟨by decide, by decide⟩ (fun hc114 => ?_) (fun hc114 => ?_)
        · refine lv_lload hx hb dWh_guessMultiple_163 (lv_at hl 2 rfl) ?_
          refine iv_l2i hx hb dWh_guessMultiple_165 ?_
          exact rt_i hx hb hr hlocks hK hS dWh_guessMultiple_166 () hP hD (show (gs = VL 1000000000 (sh F pl) (v + 1) / M ∨ gs = VL 1000000000 (sh F pl) (v + 1) / M + 1) ∧ 0 ≤ gs ∧ gs < 1000000000 from by exact gm_e hPP.1 ⟨hv1.2, hfi.2⟩ hPP.2.1 hPP.2.2.1 hJ (by omega))
        · refine lv_lload hx hb dWh_guessMultiple_117 (lv_at hl 2 rfl) ?_
          refine lv_ldc2 (v := iL 1000000000) hx hb hown ((by decide : (1000000000 : Int64) = iL 1000000000) ▸ hts _ wt3_21) dWh_guessMultiple_119 ?_
          refine iv_lcmp_ge (tgt := 144) hx hb dWh_guessMultiple_122 dWh_guessMultiple_123 (by decide) ⟨by omega, by omega⟩ ⟨by decide, by decide⟩ (fun hc123 => ?_) (fun hc123 => ?_)
          · refine lv_lload hx hb dWh_guessMultiple_144 (lv_at hl 2 rfl) ?_
            refine lv_lconst (v := iL 1) hx hb dWh_guessMultiple_146 rfl ?_
            refine iv_lsub hx hb dWh_guessMultiple_147 ?_
            refine lv_lstore (lv' := [(12, .long (iL (gs - 1))), (16, .int (iI t9)), (14, .long (iL rs)), (10, .long (iL ld)), (8, .long (iL th)), (6, .long (iL sc)), (4, .long (iL (G (v - 1)))), (3, .int (iI v)), (0, .ref a), (1, .ref b), (2, .int (iI pl))]) hx hb dWh_guessMultiple_148 hl (by decide) rfl (fun ls hl => ?_)
            refine lv_lload hx hb dWh_guessMultiple_150 (lv_at hl 2 rfl) ?_
            refine lv_lload hx hb dWh_guessMultiple_152 (lv_at hl 6 rfl) ?_
            refine iv_ladd hx hb dWh_guessMultiple_154 ?_
            refine lv_lstore (lv' := [(14, .long (iL (rs + (G (v - 1))))), (12, .long (iL (gs - 1))), (16, .int (iI t9)), (10, .long (iL ld)), (8, .long (iL th)), (6, .long (iL sc)), (4, .long (iL (G (v - 1)))), (3, .int (iI v)), (0, .ref a), (1, .ref b), (2, .int (iI pl))]) hx hb dWh_guessMultiple_155 hl (by decide) rfl (fun ls hl => ?_)
            refine lv_iinc (k := 2) (lv' := [(16, .int (iI (t9 + 1))), (14, .long (iL (rs + (G (v - 1))))), (12, .long (iL (gs - 1))), (10, .long (iL ld)), (8, .long (iL th)), (6, .long (iL sc)), (4, .long (iL (G (v - 1)))), (3, .int (iI v)), (0, .ref a), (1, .ref b), (2, .int (iI pl))]) (v := iI (t9 + 1)) hx hb dWh_guessMultiple_157 hl rfl (iI_add _ _).symm (by decide) rfl (fun ls hl => ?_)
            refine lv_goto (tgt := 102) hx hb dWh_guessMultiple_160 (by decide) ?_
            exact ih102 (gs - 1) (rs + (G (v - 1))) (t9 + 1) H locs ls (by exact gm_s hPP.1 hv1.2 hPP.2.1.1 hJ hc114 (by omega)) (by omega) hP hD hS (lv_sub hl [0, 1, 2, 3, 4, 5, 6, 7, 8, 9, 10] rfl)
          · have hm1 := Int.mul_le_mul_of_nonneg_right (show gs ≤ 999999999 by omega) hPP.2.1.1
            have hm2 := Int.mul_nonneg (show 0 ≤ gs by omega) hPP.2.1.1
            refine lv_lload hx hb dWh_guessMultiple_126 (lv_at hl 2 rfl) ?_
            refine lv_lload hx hb dWh_guessMultiple_128 (lv_at hl 5 rfl) ?_
            refine iv_lmul hx hb dWh_guessMultiple_130 ?_
            refine lv_lload hx hb dWh_guessMultiple_131 (lv_at hl 1 rfl) ?_
            refine lv_ldc2 (v := iL 1000000000) hx hb hown ((by decide : (1000000000 : Int64) = iL 1000000000) ▸ hts _ wt3_21) dWh_guessMultiple_133 ?_
            refine iv_lmul hx hb dWh_guessMultiple_136 ?_
            refine lv_lload hx hb dWh_guessMultiple_137 (lv_at hl 4 rfl) ?_
            refine iv_ladd hx hb dWh_guessMultiple_139 ?_
            refine iv_lcmp_le (tgt := 163) hx hb dWh_guessMultiple_140 dWh_guessMultiple_141 (by decide) ⟨by omega, by omega⟩ ⟨by omega, by omega⟩ (fun hc141 => ?_) (fun hc141 => ?_)
            · refine lv_lload hx hb dWh_guessMultiple_163 (lv_at hl 2 rfl) ?_
              refine iv_l2i hx hb dWh_guessMultiple_165 ?_
              exact rt_i hx hb hr hlocks hK hS dWh_guessMultiple_166 () hP hD (show (gs = VL 1000000000 (sh F pl) (v + 1) / M ∨ gs = VL 1000000000 (sh F pl) (v + 1) / M + 1) ∧ 0 ≤ gs ∧ gs < 1000000000 from by exact gm_e hPP.1 ⟨hv1.2, hfi.2⟩ hPP.2.1 hPP.2.2.1 hJ (by omega))
            · refine lv_lload hx hb dWh_guessMultiple_144 (lv_at hl 2 rfl) ?_
              refine lv_lconst (v := iL 1) hx hb dWh_guessMultiple_146 rfl ?_
              refine iv_lsub hx hb dWh_guessMultiple_147 ?_
              refine lv_lstore (lv' := [(12, .long (iL (gs - 1))), (16, .int (iI t9)), (14, .long (iL rs)), (10, .long (iL ld)), (8, .long (iL th)), (6, .long (iL sc)), (4, .long (iL (G (v - 1)))), (3, .int (iI v)), (0, .ref a), (1, .ref b), (2, .int (iI pl))]) hx hb dWh_guessMultiple_148 hl (by decide) rfl (fun ls hl => ?_)
              refine lv_lload hx hb dWh_guessMultiple_150 (lv_at hl 2 rfl) ?_
              refine lv_lload hx hb dWh_guessMultiple_152 (lv_at hl 6 rfl) ?_
              refine iv_ladd hx hb dWh_guessMultiple_154 ?_
              refine lv_lstore (lv' := [(14, .long (iL (rs + (G (v - 1))))), (12, .long (iL (gs - 1))), (16, .int (iI t9)), (10, .long (iL ld)), (8, .long (iL th)), (6, .long (iL sc)), (4, .long (iL (G (v - 1)))), (3, .int (iI v)), (0, .ref a), (1, .ref b), (2, .int (iI pl))]) hx hb dWh_guessMultiple_155 hl (by decide) rfl (fun ls hl => ?_)
              refine lv_iinc (k := 2) (lv' := [(16, .int (iI (t9 + 1))), (14, .long (iL (rs + (G (v - 1))))), (12, .long (iL (gs - 1))), (10, .long (iL ld)), (8, .long (iL th)), (6, .long (iL sc)), (4, .long (iL (G (v - 1)))), (3, .int (iI v)), (0, .ref a), (1, .ref b), (2, .int (iI pl))]) (v := iI (t9 + 1)) hx hb dWh_guessMultiple_157 hl rfl (iI_add _ _).symm (by decide) rfl (fun ls hl => ?_)
              refine lv_goto (tgt := 102) hx hb dWh_guessMultiple_160 (by decide) ?_
              exact ih102 (gs - 1) (rs + (G (v - 1))) (t9 + 1) H locs ls (by exact gm_s hPP.1 hv1.2 hPP.2.1.1 hJ hc114 (by omega)) (by omega) hP hD hS (lv_sub hl [0, 1, 2, 3, 4, 5, 6, 7, 8, 9, 10] rfl)
    exact L102 _ (ld / (G (v - 1))) (ld % (G (v - 1))) 0 H locs ls (by exact gm_0 hPP.1 hv1.2 hld.1) (Nat.lt_succ_self _) hP hD hS (lv_sub hl [0, 1, 2, 3, 4, 5, 6, 7, 8, 9, 10] rfl)

theorem dWh_divideBy_0 : decode prog_7_method_17_code 0 = .ok (.aload_n 2, 1) := by decide +kernel
theorem dWh_divideBy_1 : decode prog_7_method_17_code 1 = .ok (.iconst 0, 1) := by decide +kernel
theorem dWh_divideBy_2 : decode prog_7_method_17_code 2 = .ok (.putfield 13, 3) := by decide +kernel
theorem dWh_divideBy_5 : decode prog_7_method_17_code 5 = .ok (.aload_n 1, 1) := by decide +kernel
theorem dWh_divideBy_6 : decode prog_7_method_17_code 6 = .ok (.getfield 13, 3) := by decide +kernel
theorem dWh_divideBy_9 : decode prog_7_method_17_code 9 = .ok (.ifCond .eq 11, 3) := by decide +kernel
theorem dWh_divideBy_12 : decode prog_7_method_17_code 12 = .ok (.aload_n 0, 1) := by decide +kernel
theorem dWh_divideBy_13 : decode prog_7_method_17_code 13 = .ok (.aload_n 1, 1) := by decide +kernel
theorem dWh_divideBy_14 : decode prog_7_method_17_code 14 = .ok (.invokevirtual 55, 3) := by decide +kernel
theorem dWh_divideBy_17 : decode prog_7_method_17_code 17 = .ok (.ifCond .ge 4, 3) := by decide +kernel
theorem dWh_divideBy_20 : decode prog_7_method_17_code 20 = .ok (.return_, 1) := by decide +kernel
theorem dWh_divideBy_21 : decode prog_7_method_17_code 21 = .ok (.ldc 54, 2) := by decide +kernel
theorem dWh_divideBy_23 : decode prog_7_method_17_code 23 = .ok (.aload_n 1, 1) := by decide +kernel
theorem dWh_divideBy_24 : decode prog_7_method_17_code 24 = .ok (.getfield 9, 3) := by decide +kernel
theorem dWh_divideBy_27 : decode prog_7_method_17_code 27 = .ok (.aload_n 1, 1) := by decide +kernel
theorem dWh_divideBy_28 : decode prog_7_method_17_code 28 = .ok (.getfield 13, 3) := by decide +kernel
theorem dWh_divideBy_31 : decode prog_7_method_17_code 31 = .ok (.iconst 1, 1) := by decide +kernel
theorem dWh_divideBy_32 : decode prog_7_method_17_code 32 = .ok (.isub, 1) := by decide +kernel
theorem dWh_divideBy_33 : decode prog_7_method_17_code 33 = .ok (.iaload, 1) := by decide +kernel
theorem dWh_divideBy_34 : decode prog_7_method_17_code 34 = .ok (.iconst 1, 1) := by decide +kernel
theorem dWh_divideBy_35 : decode prog_7_method_17_code 35 = .ok (.iadd, 1) := by decide +kernel
theorem dWh_divideBy_36 : decode prog_7_method_17_code 36 = .ok (.idiv, 1) := by decide +kernel
theorem dWh_divideBy_37 : decode prog_7_method_17_code 37 = .ok (.istore_n 3, 1) := by decide +kernel
theorem dWh_divideBy_38 : decode prog_7_method_17_code 38 = .ok (.aload_n 0, 1) := by decide +kernel
theorem dWh_divideBy_39 : decode prog_7_method_17_code 39 = .ok (.iload_n 3, 1) := by decide +kernel
theorem dWh_divideBy_40 : decode prog_7_method_17_code 40 = .ok (.iconst 0, 1) := by decide +kernel
theorem dWh_divideBy_41 : decode prog_7_method_17_code 41 = .ok (.invokevirtual 33, 3) := by decide +kernel
theorem dWh_divideBy_44 : decode prog_7_method_17_code 44 = .ok (.aload_n 1, 1) := by decide +kernel
theorem dWh_divideBy_45 : decode prog_7_method_17_code 45 = .ok (.iload_n 3, 1) := by decide +kernel
theorem dWh_divideBy_46 : decode prog_7_method_17_code 46 = .ok (.iconst 0, 1) := by decide +kernel
theorem dWh_divideBy_47 : decode prog_7_method_17_code 47 = .ok (.invokevirtual 33, 3) := by decide +kernel
theorem dWh_divideBy_50 : decode prog_7_method_17_code 50 = .ok (.aload_n 0, 1) := by decide +kernel
theorem dWh_divideBy_51 : decode prog_7_method_17_code 51 = .ok (.getfield 13, 3) := by decide +kernel
theorem dWh_divideBy_54 : decode prog_7_method_17_code 54 = .ok (.bipush 32, 2) := by decide +kernel
theorem dWh_divideBy_56 : decode prog_7_method_17_code 56 = .ok (.if_icmp .ge 108, 3) := by decide +kernel
theorem dWh_divideBy_59 : decode prog_7_method_17_code 59 = .ok (.aload_n 0, 1) := by decide +kernel
theorem dWh_divideBy_60 : decode prog_7_method_17_code 60 = .ok (.getfield 9, 3) := by decide +kernel
theorem dWh_divideBy_63 : decode prog_7_method_17_code 63 = .ok (.aload_n 0, 1) := by decide +kernel
theorem dWh_divideBy_64 : decode prog_7_method_17_code 64 = .ok (.getfield 13, 3) := by decide +kernel
theorem dWh_divideBy_67 : decode prog_7_method_17_code 67 = .ok (.iconst 0, 1) := by decide +kernel
theorem dWh_divideBy_68 : decode prog_7_method_17_code 68 = .ok (.iastore, 1) := by decide +kernel
theorem dWh_divideBy_69 : decode prog_7_method_17_code 69 = .ok (.aload_n 2, 1) := by decide +kernel
theorem dWh_divideBy_70 : decode prog_7_method_17_code 70 = .ok (.aload_n 0, 1) := by decide +kernel
theorem dWh_divideBy_71 : decode prog_7_method_17_code 71 = .ok (.getfield 13, 3) := by decide +kernel
theorem dWh_divideBy_74 : decode prog_7_method_17_code 74 = .ok (.aload_n 1, 1) := by decide +kernel
theorem dWh_divideBy_75 : decode prog_7_method_17_code 75 = .ok (.getfield 13, 3) := by decide +kernel
theorem dWh_divideBy_78 : decode prog_7_method_17_code 78 = .ok (.isub, 1) := by decide +kernel
theorem dWh_divideBy_79 : decode prog_7_method_17_code 79 = .ok (.iconst 1, 1) := by decide +kernel
theorem dWh_divideBy_80 : decode prog_7_method_17_code 80 = .ok (.iadd, 1) := by decide +kernel
theorem dWh_divideBy_81 : decode prog_7_method_17_code 81 = .ok (.putfield 13, 3) := by decide +kernel
theorem dWh_divideBy_84 : decode prog_7_method_17_code 84 = .ok (.aload_n 2, 1) := by decide +kernel
theorem dWh_divideBy_85 : decode prog_7_method_17_code 85 = .ok (.getfield 13, 3) := by decide +kernel
theorem dWh_divideBy_88 : decode prog_7_method_17_code 88 = .ok (.iconst 1, 1) := by decide +kernel
theorem dWh_divideBy_89 : decode prog_7_method_17_code 89 = .ok (.isub, 1) := by decide +kernel
theorem dWh_divideBy_90 : decode prog_7_method_17_code 90 = .ok (.istore 4, 2) := by decide +kernel
theorem dWh_divideBy_92 : decode prog_7_method_17_code 92 = .ok (.iload 4, 2) := by decide +kernel
theorem dWh_divideBy_94 : decode prog_7_method_17_code 94 = .ok (.ifCond .lt 62, 3) := by decide +kernel
theorem dWh_divideBy_97 : decode prog_7_method_17_code 97 = .ok (.aload_n 0, 1) := by decide +kernel
theorem dWh_divideBy_98 : decode prog_7_method_17_code 98 = .ok (.aload_n 1, 1) := by decide +kernel
theorem dWh_divideBy_99 : decode prog_7_method_17_code 99 = .ok (.iload 4, 2) := by decide +kernel
theorem dWh_divideBy_101 : decode prog_7_method_17_code 101 = .ok (.invokevirtual 59, 3) := by decide +kernel
theorem dWh_divideBy_104 : decode prog_7_method_17_code 104 = .ok (.istore 5, 2) := by decide +kernel
theorem dWh_divideBy_106 : decode prog_7_method_17_code 106 = .ok (.aload_n 0, 1) := by decide +kernel
theorem dWh_divideBy_107 : decode prog_7_method_17_code 107 = .ok (.aload_n 1, 1) := by decide +kernel
theorem dWh_divideBy_108 : decode prog_7_method_17_code 108 = .ok (.iload 5, 2) := by decide +kernel
theorem dWh_divideBy_110 : decode prog_7_method_17_code 110 = .ok (.iload 4, 2) := by decide +kernel
theorem dWh_divideBy_112 : decode prog_7_method_17_code 112 = .ok (.invokevirtual 63, 3) := by decide +kernel
theorem dWh_divideBy_115 : decode prog_7_method_17_code 115 = .ok (.istore 6, 2) := by decide +kernel
theorem dWh_divideBy_117 : decode prog_7_method_17_code 117 = .ok (.iload 6, 2) := by decide +kernel
theorem dWh_divideBy_119 : decode prog_7_method_17_code 119 = .ok (.ifCond .eq 10, 3) := by decide +kernel
theorem dWh_divideBy_122 : decode prog_7_method_17_code 122 = .ok (.aload_n 0, 1) := by decide +kernel
theorem dWh_divideBy_123 : decode prog_7_method_17_code 123 = .ok (.aload_n 1, 1) := by decide +kernel
theorem dWh_divideBy_124 : decode prog_7_method_17_code 124 = .ok (.iload 4, 2) := by decide +kernel
theorem dWh_divideBy_126 : decode prog_7_method_17_code 126 = .ok (.invokevirtual 67, 3) := by decide +kernel
theorem dWh_divideBy_129 : decode prog_7_method_17_code 129 = .ok (.aload_n 2, 1) := by decide +kernel
theorem dWh_divideBy_130 : decode prog_7_method_17_code 130 = .ok (.getfield 9, 3) := by decide +kernel
theorem dWh_divideBy_133 : decode prog_7_method_17_code 133 = .ok (.iload 4, 2) := by decide +kernel
theorem dWh_divideBy_135 : decode prog_7_method_17_code 135 = .ok (.iload 6, 2) := by decide +kernel
theorem dWh_divideBy_137 : decode prog_7_method_17_code 137 = .ok (.ifCond .eq 10, 3) := by decide +kernel
theorem dWh_divideBy_140 : decode prog_7_method_17_code 140 = .ok (.iload 5, 2) := by decide +kernel
theorem dWh_divideBy_142 : decode prog_7_method_17_code 142 = .ok (.iconst 1, 1) := by decide +kernel
theorem dWh_divideBy_143 : decode prog_7_method_17_code 143 = .ok (.isub, 1) := by decide +kernel
theorem dWh_divideBy_144 : decode prog_7_method_17_code 144 = .ok (.goto 5, 3) := by decide +kernel
theorem dWh_divideBy_147 : decode prog_7_method_17_code 147 = .ok (.iload 5, 2) := by decide +kernel
theorem dWh_divideBy_149 : decode prog_7_method_17_code 149 = .ok (.iastore, 1) := by decide +kernel
theorem dWh_divideBy_150 : decode prog_7_method_17_code 150 = .ok (.iinc 4 (-1), 3) := by decide +kernel
theorem dWh_divideBy_153 : decode prog_7_method_17_code 153 = .ok (.goto (-61), 3) := by decide +kernel
theorem dWh_divideBy_156 : decode prog_7_method_17_code 156 = .ok (.aload_n 0, 1) := by decide +kernel
theorem dWh_divideBy_157 : decode prog_7_method_17_code 157 = .ok (.aload_n 1, 1) := by decide +kernel
theorem dWh_divideBy_158 : decode prog_7_method_17_code 158 = .ok (.getfield 13, 3) := by decide +kernel
theorem dWh_divideBy_161 : decode prog_7_method_17_code 161 = .ok (.putfield 13, 3) := by decide +kernel
theorem dWh_divideBy_164 : decode prog_7_method_17_code 164 = .ok (.aload_n 2, 1) := by decide +kernel
theorem dWh_divideBy_165 : decode prog_7_method_17_code 165 = .ok (.invokevirtual 48, 3) := by decide +kernel
theorem dWh_divideBy_168 : decode prog_7_method_17_code 168 = .ok (.aload_n 0, 1) := by decide +kernel
theorem dWh_divideBy_169 : decode prog_7_method_17_code 169 = .ok (.iload_n 3, 1) := by decide +kernel
theorem dWh_divideBy_170 : decode prog_7_method_17_code 170 = .ok (.invokevirtual 43, 3) := by decide +kernel
theorem dWh_divideBy_173 : decode prog_7_method_17_code 173 = .ok (.aload_n 1, 1) := by decide +kernel
theorem dWh_divideBy_174 : decode prog_7_method_17_code 174 = .ok (.iload_n 3, 1) := by decide +kernel
theorem dWh_divideBy_175 : decode prog_7_method_17_code 175 = .ok (.invokevirtual 43, 3) := by decide +kernel
theorem dWh_divideBy_178 : decode prog_7_method_17_code 178 = .ok (.return_, 1) := by decide +kernel
abbrev qWh_divideBy (dC : Nat → ClassId) (dI : Nat → Nat → Nat) (dA : Nat → ClassId) (dS : Nat → Nat) (a : Nat) (g : Nat) (F : Int → Int) (u : Int) (N : Int) (b : Nat) (h : Nat) (G : Int → Int) (v : Int) (M : Int) (b2 : Nat) (h2 : Nat) (G2 : Int → Int) (v2 : Int) (A : Nat → Prop) : Array Value → State → Outcome → State → Prop := QV (dC, dI) vwCl (tyA dA) (fun (v_ : (Int → Int) × Int × (Int → Int) × Int × (Int → Int) × Int) => WR v_.1 v_.2.1 (N % M) ∧ WR v_.2.2.1 v_.2.2.2.1 M ∧ WR v_.2.2.2.2.1 v_.2.2.2.2.2 (N / M)) (fun (v_ : (Int → Int) × Int × (Int → Int) × Int × (Int → Int) × Int) => wWh dA a g v_.1 v_.2.1 (wWh dA b h v_.2.2.1 v_.2.2.2.1 (wWh dA b2 h2 v_.2.2.2.2.1 v_.2.2.2.2.2 []))) A
abbrev rmWh_divideBy : Room := { frames := 2, cells := 0, slots := 0, locals := 51 }
set_option maxRecDepth 100000 in
set_option maxHeartbeats 1000000 in
theorem cWh_divideBy (l : Launch) (dC : Nat → ClassId) (dI : Nat → Nat → Nat) (dA : Nat → ClassId) (dS : Nat → Nat) (a : Nat) (g : Nat) (F : Int → Int) (u : Int) (N : Int) (b : Nat) (h : Nat) (G : Int → Int) (v : Int) (M : Int) (b2 : Nat) (h2 : Nat) (G2 : Int → Int) (v2 : Int) (hW : WR F u N) (hV : WR G v M) (hM : 0 < M) (hN : N < PW 1000000000 30) (sz : Nat) : Met l yWh_divideBy wsWh_divideBy rmWh_divideBy (PC (dC, dI) vwCl (tyA dA) (XC dS) [.ref a, .ref b, .ref b2] (wWh dA a g F u (wWh dA b h G v (wWh dA b2 h2 G2 v2 []))) sz) (qWh_divideBy dC dI dA dS a g F u N b h G v M b2 h2 G2 v2 (va_A (wWh dA a g F u (wWh dA b h G v (wWh dA b2 h2 G2 v2 []))) sz)) 0 0 (va_A (wWh dA a g F u (wWh dA b h G v (wWh dA b2 h2 G2 v2 []))) sz) := by
  refine met_of (cc := prog_7_method_17_code) (maxL := 7) (ret := none) (Qc := qWh_divideBy dC dI dA dS a g F u N b h G v M b2 h2 G2 v2) (XC_ok dS) (by decide) rfl (Nat.le_of_ble_eq_true rfl) ?_
  intro p e s m below meth c ls A hx hb hr hml hown hts hlocks hnm hK hP hD hA hX hS hl
  have hl : lv_has ls 7 [(0, .ref a), (1, .ref b), (2, .ref b2)] := hl
  have hown : s.vm.findClass "MacroReckoner$Whole" = some m.cls := hown
  obtain ⟨H, hH⟩ : ∃ H : Heap, H = s.heap := ⟨_, rfl⟩
  obtain ⟨locs, hlo⟩ : ∃ L : List Loc, L = [] := ⟨_, rfl⟩
  have hP : va_P (dC, dI) vwCl (wWh dA a g F u (wWh dA b h G v (wWh dA b2 h2 G2 v2 []))) H := hH ▸ hP
  have hS : va_S A s.heap H locs := by rw [hH, hlo]; exact hS
  suffices hgo : W p l e rmWh_divideBy s m [.ref a, .ref b, .ref b2].toArray below meth c H locs 0 0 (MQ below (qWh_divideBy dC dI dA dS a g F u N b h G v M b2 h2 G2 v2 A) [.ref a, .ref b, .ref b2].toArray s 0 0 A) (F0 m 0 ls []) by rw [hH, hlo] at hgo; exact hgo
  clear hH hlo
  have hu := hW.1
  have hv := hV.1
  have hz := WR_z hV
  refine lv_aload_n hx hb dWh_divideBy_0 rfl (lv_at hl 2 rfl) ?_
  refine lv_iconst (v := iI 0) hx hb dWh_divideBy_1 rfl ?_
  refine va_put (D := (dC, dI)) (ci := 5) (v := .int (iI 0)) (ty := .int) (C := "MacroReckoner$Whole") (T := TWh) (N := 2) hx hb hts inWh tyWh tyWh_ok nmWh hown hK hP hD hS 4 rfl rfl 1 (by decide) (hts _ wt1_93) (fun _ h9 => h9) rfl (by decide +kernel) rfl rfl (Nat.le_of_ble_eq_true rfl) dWh_divideBy_2 (fun H locs hP hD hS => ?_)
  have hP : va_P (dC, dI) vwCl (wWh dA a g F u (wWh dA b h G v (wWh dA b2 h2 G2 0 []))) H := hP
  have hD : va_D A (wWh dA a g F u (wWh dA b h G v (wWh dA b2 h2 G2 0 []))) := hD
  refine lv_aload_n hx hb dWh_divideBy_5 rfl (lv_at hl 1 rfl) ?_
  refine va_get (D := (dC, dI)) (ci := 5) (v := .int (iI v)) (C := "MacroReckoner$Whole") (T := TWh) (N := 2) hx hb hts inWh hown hK hP 2 rfl rfl 1 (by decide) (hts _ wt1_93) (fun _ h9 => h9) rfl dWh_divideBy_6 ?_
  refine iv_if_eq (tgt := 20) hx hb dWh_divideBy_9 (by decide) ⟨by omega, by omega⟩ (fun hc9 => absurd hc9 (by omega)) (fun hc9 => ?_)
  refine lv_aload_n hx hb dWh_divideBy_12 rfl (lv_at hl 0 rfl) ?_
  refine lv_aload_n hx hb dWh_divideBy_13 rfl (lv_at hl 1 rfl) ?_
  refine cv_i (va_runV (C := "MacroReckoner$Whole") (As := [.ref b]) (rest := []) ⟨hx, hb, hml, hown, hts⟩ (cWh_against l dC dI dA a g F u N b h G v M (by exact hW) (by exact hV) H.size) (cwV 1 hts (gdV wt3_135 wt3_93 wt3_94 wt1_5 wt3_95) rfl rfl rfl ⟨rfl, by decide, by decide, by decide +kernel⟩ ⟨by decide, by decide⟩) (preV (q := ("MacroReckoner$Whole", TWh, 2)) hK hP hD hS hA XN_ok trivial [0, 1, 2, 3] rfl rfl 0 rfl rfl) rfl rfl hl.1 rfl (lv_room (Nat.le_of_ble_eq_true rfl)) dWh_divideBy_14 ⟨Nat.zero_le _, Nat.zero_le _⟩) hP hD hS hA [0, 1, 2, 3] [4, 5] rfl (fun v_ => wWh dA a g F u (wWh dA b h G v (wWh dA b2 h2 G2 0 []))) (fun _ => rfl) (wWh dA b2 h2 G2 0 []) rfl (fun _ => rfl) [a, g, b, h, b2, h2] rfl (fun _ => rfl) (fun _ => rfl) (fun r14 u_ H locs hq14 hP hD hS => ?_)
  have hP : va_P (dC, dI) vwCl (wWh dA a g F u (wWh dA b h G v (wWh dA b2 h2 G2 0 []))) H := hP
  have hD : va_D A (wWh dA a g F u (wWh dA b h G v (wWh dA b2 h2 G2 0 []))) := hD
  have hq14 : (N < M ∧ r14 = -1) ∨ (N = M ∧ r14 = 0) ∨ (M < N ∧ r14 = 1) := hq14
  refine iv_if_ge (tgt := 21) hx hb dWh_divideBy_17 (by decide) ⟨by omega, by omega⟩ (fun hc17 => ?_) (fun hc17 => ?_)
  · have hfi := hV.2.1 (v - 1) (by omega) (by omega)
    have htp := hV.2.2.1 (by omega)
    refine lv_ldc (v := iI 1000000000) hx hb hown ((by decide : (1000000000 : Int32) = iI 1000000000) ▸ hts _ wt3_82) dWh_divideBy_21 ?_
    refine lv_aload_n hx hb dWh_divideBy_23 rfl (lv_at hl 1 rfl) ?_
    refine va_get (D := (dC, dI)) (ci := 5) (v := .ref h) (C := "MacroReckoner$Whole") (T := TWh) (N := 2) hx hb hts inWh hown hK hP 2 rfl rfl 0 (by decide) (hts _ wt1_92) (fun _ h9 => h9) rfl dWh_divideBy_24 ?_
    refine lv_aload_n hx hb dWh_divideBy_27 rfl (lv_at hl 1 rfl) ?_
    refine va_get (D := (dC, dI)) (ci := 5) (v := .int (iI v)) (C := "MacroReckoner$Whole") (T := TWh) (N := 2) hx hb hts inWh hown hK hP 2 rfl rfl 1 (by decide) (hts _ wt1_93) (fun _ h9 => h9) rfl dWh_divideBy_28 ?_
    refine lv_iconst (v := iI 1) hx hb dWh_divideBy_31 rfl ?_
    refine iv_isub hx hb dWh_divideBy_32 ?_
    refine iv_iald hx hb hK hP 3 0 rfl rfl (by decide) dWh_divideBy_33 (by omega) (by omega) ?_
    refine lv_iconst (v := iI 1) hx hb dWh_divideBy_34 rfl ?_
    refine iv_iadd hx hb dWh_divideBy_35 ?_
    refine iv_idiv hx hb dWh_divideBy_36 (by omega) ⟨by decide, by decide⟩ (by omega) ⟨by omega, by omega⟩ ?_
    refine lv_istore_n (lv' := [(3, .int (iI (1000000000 / ((G (v - 1)) + 1)))), (0, .ref a), (1, .ref b), (2, .ref b2)]) hx hb dWh_divideBy_37 rfl hl (by decide) rfl (fun ls hl => ?_)
    obtain ⟨st, e_st⟩ : ∃ z : Int, z = 1000000000 / ((G (v - 1)) + 1) := ⟨_, rfl⟩
    rw [← e_st] at hl
    have hst := stretch_half (t := G (v - 1)) (by omega) hfi.2 e_st
    have hN0 := (WR_bd hW).1
    have hp30 := PW_pos (b := 1000000000) (by decide) 30
    have hNs : N * st < PW 1000000000 31 := by have h1 := Int.mul_le_mul_of_nonneg_left (show st ≤ 1000000000 by omega) hN0; rw [show (31 : Int) = 30 + 1 from rfl, PW_s (by decide)]; omega
    have hMN : M ≤ N := by omega
    have hMs : M * st ≤ N * st := Int.mul_le_mul_of_nonneg_right hMN (by omega)
    have hp32 := PW_lt (b := 1000000000) (i := 31) (j := 32) (by decide) (by decide) (by decide)
    refine lv_aload_n hx hb dWh_divideBy_38 rfl (lv_at hl 1 rfl) ?_
    refine lv_iload_n hx hb dWh_divideBy_39 rfl (lv_at hl 0 rfl) ?_
    refine lv_iconst (v := iI 0) hx hb dWh_divideBy_40 rfl ?_
    refine cv_v (va_runV (C := "MacroReckoner$Whole") (As := [.int (iI st), .int (iI 0)]) (rest := []) ⟨hx, hb, hml, hown, hts⟩ (cWh_timesSmallPlus l dC dI dA a g F u N st 0 (by exact hW) (by omega) (by omega) (by omega) H.size) (cwV 2 hts (gdV wt3_76 wt3_18 wt3_19 wt1_5 wt3_20) rfl rfl rfl ⟨rfl, by decide, by decide, by decide +kernel⟩ ⟨by decide, by decide⟩) (preV (q := ("MacroReckoner$Whole", TWh, 2)) hK hP hD hS hA XN_ok trivial [0, 1] rfl rfl 0 rfl rfl) rfl rfl hl.1 rfl (lv_room (Nat.le_of_ble_eq_true rfl)) dWh_divideBy_41 ⟨Nat.zero_le _, Nat.zero_le _⟩) hP hD hS hA [0, 1] [2, 3, 4, 5] rfl (fun v_ => wWh dA a g v_.1 v_.2 (wWh dA b h G v (wWh dA b2 h2 G2 0 []))) (fun _ => rfl) (wWh dA b h G v (wWh dA b2 h2 G2 0 [])) rfl (fun _ => rfl) [a, g, b, h, b2, h2] rfl (fun _ => rfl) (fun _ => rfl) (fun u_ H locs hq41 hP hD hS => ?_)
    obtain ⟨F_41, u_41⟩ := u_
    have hP : va_P (dC, dI) vwCl (wWh dA a g F_41 u_41 (wWh dA b h G v (wWh dA b2 h2 G2 0 []))) H := hP
    have hD : va_D A (wWh dA a g F_41 u_41 (wWh dA b h G v (wWh dA b2 h2 G2 0 []))) := hD
    have hq41 : WR F_41 u_41 (N * st + 0) := hq41
    refine lv_aload_n hx hb dWh_divideBy_44 rfl (lv_at hl 2 rfl) ?_
    refine lv_iload_n hx hb dWh_divideBy_45 rfl (lv_at hl 0 rfl) ?_
    refine lv_iconst (v := iI 0) hx hb dWh_divideBy_46 rfl ?_
    refine cv_v (va_runV (C := "MacroReckoner$Whole") (As := [.int (iI st), .int (iI 0)]) (rest := []) ⟨hx, hb, hml, hown, hts⟩ (cWh_timesSmallPlus l dC dI dA b h G v M st 0 (by exact hV) (by omega) (by omega) (by omega) H.size) (cwV 2 hts (gdV wt3_76 wt3_18 wt3_19 wt1_5 wt3_20) rfl rfl rfl ⟨rfl, by decide, by decide, by decide +kernel⟩ ⟨by decide, by decide⟩) (preV (q := ("MacroReckoner$Whole", TWh, 2)) hK hP hD hS hA XN_ok trivial [2, 3] rfl rfl 0 rfl rfl) rfl rfl hl.1 rfl (lv_room (Nat.le_of_ble_eq_true rfl)) dWh_divideBy_47 ⟨Nat.zero_le _, Nat.zero_le _⟩) hP hD hS hA [2, 3] [0, 1, 4, 5] rfl (fun v_ => wWh dA a g F_41 u_41 (wWh dA b h v_.1 v_.2 (wWh dA b2 h2 G2 0 []))) (fun _ => rfl) (wWh dA a g F_41 u_41 (wWh dA b2 h2 G2 0 [])) rfl (fun _ => rfl) [a, g, b, h, b2, h2] rfl (fun _ => rfl) (fun _ => rfl) (fun u_ H locs hq47 hP hD hS => ?_)
    obtain ⟨G_47, v_47⟩ := u_
    have hP : va_P (dC, dI) vwCl (wWh dA a g F_41 u_41 (wWh dA b h G_47 v_47 (wWh dA b2 h2 G2 0 []))) H := hP
    have hD : va_D A (wWh dA a g F_41 u_41 (wWh dA b h G_47 v_47 (wWh dA b2 h2 G2 0 []))) := hD
    have hq47 : WR G_47 v_47 (M * st + 0) := hq47
    obtain ⟨hvv, hhf⟩ := stretch_v hV (by omega) e_st (by have := hq47; rw [Int.add_zero] at this; exact this)
    have hF4 : WR F_41 u_41 (N * st) := by have := hq41; rw [Int.add_zero] at this; exact this
    have hG4 : WR G_47 v_47 (M * st) := by have := hq47; rw [Int.add_zero] at this; exact this
    have hu4 := hF4.1
    have hu31 := WR_le hF4 (by decide) hNs
    have hM1 : 0 < M * st := Int.mul_pos hM (by omega)
    have hM2 := (WR_bd hG4).2
    refine lv_aload_n hx hb dWh_divideBy_50 rfl (lv_at hl 1 rfl) ?_
    refine va_get (D := (dC, dI)) (ci := 5) (v := .int (iI u_41)) (C := "MacroReckoner$Whole") (T := TWh) (N := 2) hx hb hts inWh hown hK hP 0 rfl rfl 1 (by decide) (hts _ wt1_93) (fun _ h9 => h9) rfl dWh_divideBy_51 ?_
    refine lv_bipush (v := iI 32) hx hb dWh_divideBy_54 (by decide) ?_
    refine iv_icmp_ge (tgt := 164) hx hb dWh_divideBy_56 (by decide) ⟨by omega, by omega⟩ ⟨by decide, by decide⟩ (fun hc56 => absurd hc56 (by omega)) (fun hc56 => ?_)
    refine lv_aload_n hx hb dWh_divideBy_59 rfl (lv_at hl 1 rfl) ?_
    refine va_get (D := (dC, dI)) (ci := 5) (v := .ref g) (C := "MacroReckoner$Whole") (T := TWh) (N := 2) hx hb hts inWh hown hK hP 0 rfl rfl 0 (by decide) (hts _ wt1_92) (fun _ h9 => h9) rfl dWh_divideBy_60 ?_
    refine lv_aload_n hx hb dWh_divideBy_63 rfl (lv_at hl 1 rfl) ?_
    refine va_get (D := (dC, dI)) (ci := 5) (v := .int (iI u_41)) (C := "MacroReckoner$Whole") (T := TWh) (N := 2) hx hb hts inWh hown hK hP 0 rfl rfl 1 (by decide) (hts _ wt1_93) (fun _ h9 => h9) rfl dWh_divideBy_64 ?_
    refine lv_iconst (v := iI 0) hx hb dWh_divideBy_67 rfl ?_
    refine iv_iast (v := 0) hx hb hK hP hD hS 1 0 rfl rfl (by decide) dWh_divideBy_68 (by omega) (by omega) (fun H locs hP hD hS => ?_)
    have hP : va_P (dC, dI) vwCl (wWh dA a g (up F_41 u_41 0) u_41 (wWh dA b h G_47 v_47 (wWh dA b2 h2 G2 0 []))) H := hP
    have hD : va_D A (wWh dA a g (up F_41 u_41 0) u_41 (wWh dA b h G_47 v_47 (wWh dA b2 h2 G2 0 []))) := hD
    refine lv_aload_n hx hb dWh_divideBy_69 rfl (lv_at hl 3 rfl) ?_
    refine lv_aload_n hx hb dWh_divideBy_70 rfl (lv_at hl 1 rfl) ?_
    refine va_get (D := (dC, dI)) (ci := 5) (v := .int (iI u_41)) (C := "MacroReckoner$Whole") (T := TWh) (N := 2) hx hb hts inWh hown hK hP 0 rfl rfl 1 (by decide) (hts _ wt1_93) (fun _ h9 => h9) rfl dWh_divideBy_71 ?_
    refine lv_aload_n hx hb dWh_divideBy_74 rfl (lv_at hl 2 rfl) ?_
    refine va_get (D := (dC, dI)) (ci := 5) (v := .int (iI v_47)) (C := "MacroReckoner$Whole") (T := TWh) (N := 2) hx hb hts inWh hown hK hP 2 rfl rfl 1 (by decide) (hts _ wt1_93) (fun _ h9 => h9) rfl dWh_divideBy_75 ?_
    refine iv_isub hx hb dWh_divideBy_78 ?_
    refine lv_iconst (v := iI 1) hx hb dWh_divideBy_79 rfl ?_
    refine iv_iadd hx hb dWh_divideBy_80 ?_
    refine va_put (D := (dC, dI)) (ci := 5) (v := .int (iI ((u_41 - v_47) + 1))) (ty := .int) (C := "MacroReckoner$Whole") (T := TWh) (N := 2) hx hb hts inWh tyWh tyWh_ok nmWh hown hK hP hD hS 4 rfl rfl 1 (by decide) (hts _ wt1_93) (fun _ h9 => h9) rfl (by decide +kernel) rfl rfl (Nat.le_of_ble_eq_true rfl) dWh_divideBy_81 (fun H locs hP hD hS => ?_)
    have hP : va_P (dC, dI) vwCl (wWh dA a g (up F_41 u_41 0) u_41 (wWh dA b h G_47 v_47 (wWh dA b2 h2 G2 ((u_41 - v_47) + 1) []))) H := hP
    have hD : va_D A (wWh dA a g (up F_41 u_41 0) u_41 (wWh dA b h G_47 v_47 (wWh dA b2 h2 G2 ((u_41 - v_47) + 1) []))) := hD
    obtain ⟨hle, hJ0⟩ := dv_0 (Q9 := G2) hF4 hG4 (by omega) hMs (by omega)
    refine lv_aload_n hx hb dWh_divideBy_84 rfl (lv_at hl 3 rfl) ?_
    refine va_get (D := (dC, dI)) (ci := 5) (v := .int (iI (((u_41 - v_47) + 1)))) (C := "MacroReckoner$Whole") (T := TWh) (N := 2) hx hb hts inWh hown hK hP 4 rfl rfl 1 (by decide) (hts _ wt1_93) (fun _ h9 => h9) rfl dWh_divideBy_85 ?_
    refine lv_iconst (v := iI 1) hx hb dWh_divideBy_88 rfl ?_
    refine iv_isub hx hb dWh_divideBy_89 ?_
    refine lv_istore (lv' := [(4, .int (iI ((((u_41 - v_47) + 1)) - 1))), (3, .int (iI st)), (0, .ref a), (1, .ref b), (2, .ref b2)]) hx hb dWh_divideBy_90 hl (by decide) rfl (fun ls hl => ?_)
    have L92 : ∀ (n : Nat) (F9 : Int → Int) (Q9 : Int → Int) (i : Int) (H : Heap) (locs : List Loc) (ls : Array Slot), (dvJ F9 Q9 v_47 (u_41 - v_47 + 1) (N * st) (M * st) i) → (i + 1).toNat < n → va_P (dC, dI) vwCl (wWh dA a g F9 u_41 (wWh dA b h G_47 v_47 (wWh dA b2 h2 Q9 ((u_41 - v_47) + 1) []))) H → va_D A (wWh dA a g F9 u_41 (wWh dA b h G_47 v_47 (wWh dA b2 h2 Q9 ((u_41 - v_47) + 1) []))) → va_S A s.heap H locs → lv_has ls 7 [(4, .int (iI i)), (3, .int (iI st)), (0, .ref a), (1, .ref b), (2, .ref b2)] → W p l e rmWh_divideBy s m [.ref a, .ref b, .ref b2].toArray below meth c H locs 0 0 (MQ below (qWh_divideBy dC dI dA dS a g F u N b h G v M b2 h2 G2 v2 A) [.ref a, .ref b, .ref b2].toArray s 0 0 A) (F0 m 92 ls []) := by
      intro n
      induction n with
      | zero => intro F9 Q9 i H locs ls hJ hn; omega
      | succ n ih =>
        intro F9 Q9 i H locs ls hJ hn hP hD hS hl
        have hj1 := hJ.1
        have hj2 := hJ.2.1
        have ih92 := ih
        refine lv_iload hx hb dWh_divideBy_92 (lv_at hl 0 rfl) ?_
        refine iv_if_lt (tgt := 156) hx hb dWh_divideBy_94 (by decide) ⟨by omega, by omega⟩ (fun hc94 => ?_) (fun hc94 => ?_)
        · obtain ⟨hE1, hE2⟩ := dv_e hJ hc94 (by omega) (by omega) hM1
          refine lv_aload_n hx hb dWh_divideBy_156 rfl (lv_at hl 2 rfl) ?_
          refine lv_aload_n hx hb dWh_divideBy_157 rfl (lv_at hl 3 rfl) ?_
          refine va_get (D := (dC, dI)) (ci := 5) (v := .int (iI v_47)) (C := "MacroReckoner$Whole") (T := TWh) (N := 2) hx hb hts inWh hown hK hP 2 rfl rfl 1 (by decide) (hts _ wt1_93) (fun _ h9 => h9) rfl dWh_divideBy_158 ?_
          refine va_put (D := (dC, dI)) (ci := 5) (v := .int (iI v_47)) (ty := .int) (C := "MacroReckoner$Whole") (T := TWh) (N := 2) hx hb hts inWh tyWh tyWh_ok nmWh hown hK hP hD hS 0 rfl rfl 1 (by decide) (hts _ wt1_93) (fun _ h9 => h9) rfl (by decide +kernel) rfl rfl (Nat.le_of_ble_eq_true rfl) dWh_divideBy_161 (fun H locs hP hD hS => ?_)
          have hP : va_P (dC, dI) vwCl (wWh dA a g F9 v_47 (wWh dA b h G_47 v_47 (wWh dA b2 h2 Q9 ((u_41 - v_47) + 1) []))) H := hP
          have hD : va_D A (wWh dA a g F9 v_47 (wWh dA b h G_47 v_47 (wWh dA b2 h2 Q9 ((u_41 - v_47) + 1) []))) := hD
          refine lv_aload_n hx hb dWh_divideBy_164 rfl (lv_at hl 4 rfl) ?_
          refine cv_v (va_runV (C := "MacroReckoner$Whole") (As := []) (rest := []) ⟨hx, hb, hml, hown, hts⟩ (cWh_trim l dC dI dA b2 h2 Q9 (((u_41 - v_47) + 1)) (N * st / (M * st)) (by exact hE2) H.size) (cwV 0 hts (gdV wt3_100 wt3_102 ws2_1 wt1_5 wt3_103) rfl rfl rfl ⟨rfl, by decide, by decide, by decide +kernel⟩ ⟨by decide, by decide⟩) (preV (q := ("MacroReckoner$Whole", TWh, 2)) hK hP hD hS hA XN_ok trivial [4, 5] rfl rfl 0 rfl rfl) rfl rfl hl.1 rfl (lv_room (Nat.le_of_ble_eq_true rfl)) dWh_divideBy_165 ⟨Nat.zero_le _, Nat.zero_le _⟩) hP hD hS hA [4, 5] [0, 1, 2, 3] rfl (fun v_ => wWh dA a g F9 v_47 (wWh dA b h G_47 v_47 (wWh dA b2 h2 Q9 v_ []))) (fun _ => rfl) (wWh dA a g F9 v_47 (wWh dA b h G_47 v_47 [])) rfl (fun _ => rfl) [a, g, b, h, b2, h2] rfl (fun _ => rfl) (fun _ => rfl) (fun u_ H locs hq165 hP hD hS => ?_)
          obtain ⟨w_165, rfl⟩ : ∃ z, z = u_ := ⟨_, rfl⟩
          have hP : va_P (dC, dI) vwCl (wWh dA a g F9 v_47 (wWh dA b h G_47 v_47 (wWh dA b2 h2 Q9 w_165 []))) H := hP
          have hD : va_D A (wWh dA a g F9 v_47 (wWh dA b h G_47 v_47 (wWh dA b2 h2 Q9 w_165 []))) := hD
          have hq165 : WR Q9 w_165 (N * st / (M * st)) := hq165
          refine lv_aload_n hx hb dWh_divideBy_168 rfl (lv_at hl 2 rfl) ?_
          refine lv_iload_n hx hb dWh_divideBy_169 rfl (lv_at hl 1 rfl) ?_
          refine cv_v (va_runV (C := "MacroReckoner$Whole") (As := [.int (iI st)]) (rest := []) ⟨hx, hb, hml, hown, hts⟩ (cWh_divideBySmall l dC dI dA a g F9 v_47 (N * st % (M * st)) st (by exact hE1) (by omega) H.size) (cwV 1 hts (gdV wt3_118 wt3_119 wt3_120 wt1_5 wt3_121) rfl rfl rfl ⟨rfl, by decide, by decide, by decide +kernel⟩ ⟨by decide, by decide⟩) (preV (q := ("MacroReckoner$Whole", TWh, 2)) hK hP hD hS hA XN_ok trivial [0, 1] rfl rfl 0 rfl rfl) rfl rfl hl.1 rfl (lv_room (Nat.le_of_ble_eq_true rfl)) dWh_divideBy_170 ⟨Nat.zero_le _, Nat.zero_le _⟩) hP hD hS hA [0, 1] [2, 3, 4, 5] rfl (fun v_ => wWh dA a g v_.1 v_.2 (wWh dA b h G_47 v_47 (wWh dA b2 h2 Q9 w_165 []))) (fun _ => rfl) (wWh dA b h G_47 v_47 (wWh dA b2 h2 Q9 w_165 [])) rfl (fun _ => rfl) [a, g, b, h, b2, h2] rfl (fun _ => rfl) (fun _ => rfl) (fun u_ H locs hq170 hP hD hS => ?_)
          obtain ⟨F_170, u_170⟩ := u_
          have hP : va_P (dC, dI) vwCl (wWh dA a g F_170 u_170 (wWh dA b h G_47 v_47 (wWh dA b2 h2 Q9 w_165 []))) H := hP
          have hD : va_D A (wWh dA a g F_170 u_170 (wWh dA b h G_47 v_47 (wWh dA b2 h2 Q9 w_165 []))) := hD
          have hq170 : WR F_170 u_170 ((N * st % (M * st)) / st) := hq170
          refine lv_aload_n hx hb dWh_divideBy_173 rfl (lv_at hl 3 rfl) ?_
          refine lv_iload_n hx hb dWh_divideBy_174 rfl (lv_at hl 1 rfl) ?_
          refine cv_v (va_runV (C := "MacroReckoner$Whole") (As := [.int (iI st)]) (rest := []) ⟨hx, hb, hml, hown, hts⟩ (cWh_divideBySmall l dC dI dA b h G_47 v_47 (M * st) st (by exact WR_D hG4) (by omega) H.size) (cwV 1 hts (gdV wt3_118 wt3_119 wt3_120 wt1_5 wt3_121) rfl rfl rfl ⟨rfl, by decide, by decide, by decide +kernel⟩ ⟨by decide, by decide⟩) (preV (q := ("MacroReckoner$Whole", TWh, 2)) hK hP hD hS hA XN_ok trivial [2, 3] rfl rfl 0 rfl rfl) rfl rfl hl.1 rfl (lv_room (Nat.le_of_ble_eq_true rfl)) dWh_divideBy_175 ⟨Nat.zero_le _, Nat.zero_le _⟩) hP hD hS hA [2, 3] [0, 1, 4, 5] rfl (fun v_ => wWh dA a g F_170 u_170 (wWh dA b h v_.1 v_.2 (wWh dA b2 h2 Q9 w_165 []))) (fun _ => rfl) (wWh dA a g F_170 u_170 (wWh dA b2 h2 Q9 w_165 [])) rfl (fun _ => rfl) [a, g, b, h, b2, h2] rfl (fun _ => rfl) (fun _ => rfl) (fun u_ H locs hq175 hP hD hS => ?_)
          obtain ⟨G_175, v_175⟩ := u_
          have hP : va_P (dC, dI) vwCl (wWh dA a g F_170 u_170 (wWh dA b h G_175 v_175 (wWh dA b2 h2 Q9 w_165 []))) H := hP
          have hD : va_D A (wWh dA a g F_170 u_170 (wWh dA b h G_175 v_175 (wWh dA b2 h2 Q9 w_165 []))) := hD
          have hq175 : WR G_175 v_175 ((M * st) / st) := hq175
          exact rt_v hx hb hr hlocks hK hS dWh_divideBy_178 (F_170, u_170, G_175, v_175, Q9, w_165) hP hD (show WR F_170 u_170 (N % M) ∧ WR G_175 v_175 M ∧ WR Q9 w_165 (N / M) from by obtain ⟨f1, f2, f3⟩ := dv_f (N := N) (M := M) (st := st) (by omega) hM; exact ⟨by have := hq170; rw [f2] at this; exact this, by have := hq175; rw [f3] at this; exact this, by have := hq165; rw [f1] at this; exact this⟩)
        · have hRR := dv_R hJ hc94 (by omega)
          have hdd : ∀ j, 0 ≤ j → j ≤ v_47 → 0 ≤ F9 (i + j) ∧ F9 (i + j) < 1000000000 := fun j x y => hJ.2.2.1 (i + j) (by omega) (by omega)
          refine lv_aload_n hx hb dWh_divideBy_97 rfl (lv_at hl 2 rfl) ?_
          refine lv_aload_n hx hb dWh_divideBy_98 rfl (lv_at hl 3 rfl) ?_
          refine lv_iload hx hb dWh_divideBy_99 (lv_at hl 0 rfl) ?_
          refine cv_i (va_runV (C := "MacroReckoner$Whole") (As := [.ref b, .int (iI i)]) (rest := []) ⟨hx, hb, hml, hown, hts⟩ (cWh_guessMultiple l dC dI dA a g F9 u_41 b h G_47 v_47 (M * st) i (by exact hG4) (by exact ⟨by omega, by rw [hvv]; exact hhf⟩) (by omega) (by exact hdd) (by exact hRR) H.size) (cwV 2 hts (gdV wt3_136 wt3_138 ws2_3 wt1_5 wt3_139) rfl rfl rfl ⟨rfl, by decide, by decide, by decide +kernel⟩ ⟨by decide, by decide⟩) (preV (q := ("MacroReckoner$Whole", TWh, 2)) hK hP hD hS hA XN_ok trivial [0, 1, 2, 3] rfl rfl 0 rfl rfl) rfl rfl hl.1 rfl (lv_room (Nat.le_of_ble_eq_true rfl)) dWh_divideBy_101 ⟨Nat.zero_le _, Nat.zero_le _⟩) hP hD hS hA [0, 1, 2, 3] [4, 5] rfl (fun v_ => wWh dA a g F9 u_41 (wWh dA b h G_47 v_47 (wWh dA b2 h2 Q9 ((u_41 - v_47) + 1) []))) (fun _ => rfl) (wWh dA b2 h2 Q9 ((u_41 - v_47) + 1) []) rfl (fun _ => rfl) [a, g, b, h, b2, h2] rfl (fun _ => rfl) (fun _ => rfl) (fun gq u_ H locs hq101 hP hD hS => ?_)
          have hP : va_P (dC, dI) vwCl (wWh dA a g F9 u_41 (wWh dA b h G_47 v_47 (wWh dA b2 h2 Q9 ((u_41 - v_47) + 1) []))) H := hP
          have hD : va_D A (wWh dA a g F9 u_41 (wWh dA b h G_47 v_47 (wWh dA b2 h2 Q9 ((u_41 - v_47) + 1) []))) := hD
          have hq101 : (gq = VL 1000000000 (sh F9 i) (v_47 + 1) / (M * st) ∨ gq = VL 1000000000 (sh F9 i) (v_47 + 1) / (M * st) + 1) ∧ 0 ≤ gq ∧ gq < 1000000000 := hq101
          refine lv_istore (lv' := [(5, .int (iI gq)), (4, .int (iI i)), (3, .int (iI st)), (0, .ref a), (1, .ref b), (2, .ref b2)]) hx hb dWh_divideBy_104 hl (by decide) rfl (fun ls hl => ?_)
          refine lv_aload_n hx hb dWh_divideBy_106 rfl (lv_at hl 3 rfl) ?_
          refine lv_aload_n hx hb dWh_divideBy_107 rfl (lv_at hl 4 rfl) ?_
          refine lv_iload hx hb dWh_divideBy_108 (lv_at hl 0 rfl) ?_
          refine lv_iload hx hb dWh_divideBy_110 (lv_at hl 1 rfl) ?_
          refine cv_i (va_runV (C := "MacroReckoner$Whole") (As := [.ref b, .int (iI gq), .int (iI i)]) (rest := []) ⟨hx, hb, hml, hown, hts⟩ (cWh_takeAway l dC dI dA a g F9 u_41 b h G_47 v_47 (M * st) gq i (by exact hG4) (by omega) (by omega) (by exact hdd) H.size) (cwV 3 hts (gdV wt3_140 wt3_142 ws2_4 wt1_5 wt3_143) rfl rfl rfl ⟨rfl, by decide, by decide, by decide +kernel⟩ ⟨by decide, by decide⟩) (preV (q := ("MacroReckoner$Whole", TWh, 2)) hK hP hD hS hA XN_ok trivial [0, 1, 2, 3] rfl rfl 0 rfl rfl) rfl rfl hl.1 rfl (lv_room (Nat.le_of_ble_eq_true rfl)) dWh_divideBy_112 ⟨Nat.zero_le _, Nat.zero_le _⟩) hP hD hS hA [0, 1, 2, 3] [4, 5] rfl (fun v_ => wWh dA a g v_.1 u_41 (wWh dA b h G_47 v_47 (wWh dA b2 h2 Q9 ((u_41 - v_47) + 1) []))) (fun _ => rfl) (wWh dA b2 h2 Q9 ((u_41 - v_47) + 1) []) rfl (fun _ => rfl) [a, g, b, h, b2, h2] rfl (fun _ => rfl) (fun _ => rfl) (fun tm u_ H locs hq112 hP hD hS => ?_)
          obtain ⟨F8, cy8⟩ := u_
          have hP : va_P (dC, dI) vwCl (wWh dA a g F8 u_41 (wWh dA b h G_47 v_47 (wWh dA b2 h2 Q9 ((u_41 - v_47) + 1) []))) H := hP
          have hD : va_D A (wWh dA a g F8 u_41 (wWh dA b h G_47 v_47 (wWh dA b2 h2 Q9 ((u_41 - v_47) + 1) []))) := hD
          have hq112 : taJ F9 G_47 i gq F8 cy8 v_47 ∧ ((tm = 1 ∧ F9 (i + v_47) + cy8 < 0) ∨ (tm = 0 ∧ 0 ≤ F9 (i + v_47) + cy8)) := hq112
          obtain ⟨hT, hTr⟩ := hq112
          obtain ⟨hD0, hD1⟩ := dv_t hG4.2.2.2 (by omega) ⟨hM1, hM2⟩ hdd hT hq101.1
          refine lv_istore (lv' := [(6, .int (iI tm)), (5, .int (iI gq)), (4, .int (iI i)), (3, .int (iI st)), (0, .ref a), (1, .ref b), (2, .ref b2)]) hx hb dWh_divideBy_115 hl (by decide) rfl (fun ls hl => ?_)
          refine lv_iload hx hb dWh_divideBy_117 (lv_at hl 0 rfl) ?_
          refine iv_if_eq (tgt := 129) hx hb dWh_divideBy_119 (by decide) ⟨by omega, by omega⟩ (fun hc119 => ?_) (fun hc119 => ?_)
          · refine lv_aload_n hx hb dWh_divideBy_129 rfl (lv_at hl 6 rfl) ?_
            refine va_get (D := (dC, dI)) (ci := 5) (v := .ref h2) (C := "MacroReckoner$Whole") (T := TWh) (N := 2) hx hb hts inWh hown hK hP 4 rfl rfl 0 (by decide) (hts _ wt1_92) (fun _ h9 => h9) rfl dWh_divideBy_130 ?_
            refine lv_iload hx hb dWh_divideBy_133 (lv_at hl 2 rfl) ?_
            refine lv_iload hx hb dWh_divideBy_135 (lv_at hl 0 rfl) ?_
            refine iv_if_eq (tgt := 147) hx hb dWh_divideBy_137 (by decide) ⟨by omega, by omega⟩ (fun hc137 => ?_) (fun hc137 => absurd hc137 (by omega))
            refine lv_iload hx hb dWh_divideBy_147 (lv_at hl 1 rfl) ?_
            refine iv_iast (v := gq) hx hb hK hP hD hS 5 0 rfl rfl (by decide) dWh_divideBy_149 (by omega) (by omega) (fun H locs hP hD hS => ?_)
            have hP : va_P (dC, dI) vwCl (wWh dA a g F8 u_41 (wWh dA b h G_47 v_47 (wWh dA b2 h2 (up Q9 i gq) ((u_41 - v_47) + 1) []))) H := hP
            have hD : va_D A (wWh dA a g F8 u_41 (wWh dA b h G_47 v_47 (wWh dA b2 h2 (up Q9 i gq) ((u_41 - v_47) + 1) []))) := hD
            refine lv_iinc (k := 2) (lv' := [(4, .int (iI (i - 1))), (6, .int (iI tm)), (5, .int (iI gq)), (3, .int (iI st)), (0, .ref a), (1, .ref b), (2, .ref b2)]) (v := iI (i - 1)) hx hb dWh_divideBy_150 hl rfl (by rw [show (Int32.ofInt (-1)) = iI (-1) from rfl, ← iI_add]; congr 1) (by decide) rfl (fun ls hl => ?_)
            refine lv_goto (tgt := 92) hx hb dWh_divideBy_153 (by decide) ?_
            exact ih92 F8 (up Q9 i gq) (i - 1) H locs ls (by first | (rw [hg1]; exact dv_s hJ hc94 (by omega) hM1 (fun j x => by rw [hq126.2.2.2.2.1 j (Or.inl x), hT.2.2.2.2.1 j (Or.inl x)]) hq126.2.2.2.1 hR7) | (obtain ⟨hg1, hg2⟩ := hD0 (by omega); rw [hg1]; exact dv_s hJ hc94 (by omega) hM1 (fun j x => hT.2.2.2.2.1 j (Or.inl x)) hT.2.2.2.1 hg2)) (by omega) hP hD hS (lv_sub hl [0, 3, 4, 5, 6] rfl)
          · refine lv_aload_n hx hb dWh_divideBy_122 rfl (lv_at hl 4 rfl) ?_
            refine lv_aload_n hx hb dWh_divideBy_123 rfl (lv_at hl 5 rfl) ?_
            refine lv_iload hx hb dWh_divideBy_124 (lv_at hl 2 rfl) ?_
            refine cv_v (va_runV (C := "MacroReckoner$Whole") (As := [.ref b, .int (iI i)]) (rest := []) ⟨hx, hb, hml, hown, hts⟩ (cWh_giveBack l dC dI dA a g F8 u_41 b h G_47 v_47 (M * st) i (by exact hG4) (by omega) (by exact hT.2.2.2.1) H.size) (cwV 2 hts (gdV wt3_150 wt3_152 ws2_5 wt1_5 wt3_153) rfl rfl rfl ⟨rfl, by decide, by decide, by decide +kernel⟩ ⟨by decide, by decide⟩) (preV (q := ("MacroReckoner$Whole", TWh, 2)) hK hP hD hS hA XN_ok trivial [0, 1, 2, 3] rfl rfl 0 rfl rfl) rfl rfl hl.1 rfl (lv_room (Nat.le_of_ble_eq_true rfl)) dWh_divideBy_126 ⟨Nat.zero_le _, Nat.zero_le _⟩) hP hD hS hA [0, 1, 2, 3] [4, 5] rfl (fun v_ => wWh dA a g v_.1 u_41 (wWh dA b h G_47 v_47 (wWh dA b2 h2 Q9 ((u_41 - v_47) + 1) []))) (fun _ => rfl) (wWh dA b2 h2 Q9 ((u_41 - v_47) + 1) []) rfl (fun _ => rfl) [a, g, b, h, b2, h2] rfl (fun _ => rfl) (fun _ => rfl) (fun u_ H locs hq126 hP hD hS => ?_)
            obtain ⟨F7, cy7⟩ := u_
            have hP : va_P (dC, dI) vwCl (wWh dA a g F7 u_41 (wWh dA b h G_47 v_47 (wWh dA b2 h2 Q9 ((u_41 - v_47) + 1) []))) H := hP
            have hD : va_D A (wWh dA a g F7 u_41 (wWh dA b h G_47 v_47 (wWh dA b2 h2 Q9 ((u_41 - v_47) + 1) []))) := hD
            have hq126 : gbJ F8 G_47 i F7 cy7 v_47 := hq126
            obtain ⟨hg1, hg2⟩ := hD1 (by omega)
            have hR7 := dv_g hG4.2.2.2 (by omega) hq126 hg2 ⟨Int.emod_nonneg _ (by omega), Int.emod_lt_of_pos _ hM1⟩ hM2
            refine lv_aload_n hx hb dWh_divideBy_129 rfl (lv_at hl 6 rfl) ?_
            refine va_get (D := (dC, dI)) (ci := 5) (v := .ref h2) (C := "MacroReckoner$Whole") (T := TWh) (N := 2) hx hb hts inWh hown hK hP 4 rfl rfl 0 (by decide) (hts _ wt1_92) (fun _ h9 => h9) rfl dWh_divideBy_130 ?_
            refine lv_iload hx hb dWh_divideBy_133 (lv_at hl 2 rfl) ?_
            refine lv_iload hx hb dWh_divideBy_135 (lv_at hl 0 rfl) ?_
            refine iv_if_eq (tgt := 147) hx hb dWh_divideBy_137 (by decide) ⟨by omega, by omega⟩ (fun hc137 => absurd hc137 (by omega)) (fun hc137 => ?_)
            refine lv_iload hx hb dWh_divideBy_140 (lv_at hl 1 rfl) ?_
            refine lv_iconst (v := iI 1) hx hb dWh_divideBy_142 rfl ?_
            refine iv_isub hx hb dWh_divideBy_143 ?_
            refine lv_goto (tgt := 149) hx hb dWh_divideBy_144 (by decide) ?_
            refine iv_iast (v := gq - 1) hx hb hK hP hD hS 5 0 rfl rfl (by decide) dWh_divideBy_149 (by omega) (by omega) (fun H locs hP hD hS => ?_)
            have hP : va_P (dC, dI) vwCl (wWh dA a g F7 u_41 (wWh dA b h G_47 v_47 (wWh dA b2 h2 (up Q9 i (gq - 1)) ((u_41 - v_47) + 1) []))) H := hP
            have hD : va_D A (wWh dA a g F7 u_41 (wWh dA b h G_47 v_47 (wWh dA b2 h2 (up Q9 i (gq - 1)) ((u_41 - v_47) + 1) []))) := hD
            refine lv_iinc (k := 2) (lv' := [(4, .int (iI (i - 1))), (6, .int (iI tm)), (5, .int (iI gq)), (3, .int (iI st)), (0, .ref a), (1, .ref b), (2, .ref b2)]) (v := iI (i - 1)) hx hb dWh_divideBy_150 hl rfl (by rw [show (Int32.ofInt (-1)) = iI (-1) from rfl, ← iI_add]; congr 1) (by decide) rfl (fun ls hl => ?_)
            refine lv_goto (tgt := 92) hx hb dWh_divideBy_153 (by decide) ?_
            exact ih92 F7 (up Q9 i (gq - 1)) (i - 1) H locs ls (by first | (rw [hg1]; exact dv_s hJ hc94 (by omega) hM1 (fun j x => by rw [hq126.2.2.2.2.1 j (Or.inl x), hT.2.2.2.2.1 j (Or.inl x)]) hq126.2.2.2.1 hR7) | (obtain ⟨hg1, hg2⟩ := hD0 (by omega); rw [hg1]; exact dv_s hJ hc94 (by omega) hM1 (fun j x => hT.2.2.2.2.1 j (Or.inl x)) hT.2.2.2.1 hg2)) (by omega) hP hD hS (lv_sub hl [0, 3, 4, 5, 6] rfl)
    exact L92 _ (up F_41 u_41 0) G2 ((((u_41 - v_47) + 1)) - 1) H locs ls (by rw [show u_41 - v_47 + 1 - 1 = u_41 - v_47 by omega]; exact hJ0) (Nat.lt_succ_self _) hP hD hS (lv_sub hl [0, 1, 2, 3, 4] rfl)
  · exact rt_v hx hb hr hlocks hK hS dWh_divideBy_20 (F, u, G, v, G2, 0) hP hD (show WR F u (N % M) ∧ WR G v M ∧ WR G2 0 (N / M) from by refine ⟨by rw [Int.emod_eq_of_lt (WR_bd hW).1 (by omega)]; exact hW, hV, ?_⟩; rw [Int.ediv_eq_zero_of_lt (WR_bd hW).1 (by omega)]; exact (show WR G2 0 0 from ⟨by omega, fun j x y => by omega, fun q => by omega, VL_0 _ _⟩))
