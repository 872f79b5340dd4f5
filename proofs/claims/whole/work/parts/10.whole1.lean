theorem dWh_isZero_0 : decode prog_7_method_2_code 0 = .ok (.aload_n 0, 1) := by decide +kernel
theorem dWh_isZero_1 : decode prog_7_method_2_code 1 = .ok (.getfield 13, 3) := by decide +kernel
theorem dWh_isZero_4 : decode prog_7_method_2_code 4 = .ok (.ifCond .ne 7, 3) := by decide +kernel
theorem dWh_isZero_7 : decode prog_7_method_2_code 7 = .ok (.iconst 1, 1) := by decide +kernel
theorem dWh_isZero_8 : decode prog_7_method_2_code 8 = .ok (.goto 4, 3) := by decide +kernel
theorem dWh_isZero_11 : decode prog_7_method_2_code 11 = .ok (.iconst 0, 1) := by decide +kernel
theorem dWh_isZero_12 : decode prog_7_method_2_code 12 = .ok (.ireturn, 1) := by decide +kernel
abbrev qWh_isZero (dC : Nat → ClassId) (dI : Nat → Nat → Nat) (dA : Nat → ClassId) (a : Nat) (g : Nat) (F : Int → Int) (u : Int) (N : Int) (A : Nat → Prop) : Array Value → State → Outcome → State → Prop := QI (dC, dI) vwCl (tyA dA) (fun (r : Int) (v_ : Unit) => (r = 1 ∧ N = 0) ∨ (r = 0 ∧ N ≠ 0)) (fun (v_ : Unit) => wWh dA a g F u []) A
abbrev rmWh_isZero : Room := { frames := 0, cells := 0, slots := 0, locals := 0 }
set_option maxRecDepth 100000 in
set_option maxHeartbeats 1000000 in
theorem cWh_isZero (l : Launch) (dC : Nat → ClassId) (dI : Nat → Nat → Nat) (dA : Nat → ClassId) (a : Nat) (g : Nat) (F : Int → Int) (u : Int) (N : Int) (hW : WR F u N) (sz : Nat) : Met l yWh_isZero wsWh_isZero rmWh_isZero (PC (dC, dI) vwCl (tyA dA) XN [.ref a] (wWh dA a g F u []) sz) (qWh_isZero dC dI dA a g F u N (va_A (wWh dA a g F u []) sz)) 0 0 (va_A (wWh dA a g F u []) sz) := by
  refine met_of (cc := prog_7_method_2_code) (maxL := 1) (ret := (some .boolean)) (Qc := qWh_isZero dC dI dA a g F u N) XN_ok (by decide) rfl (Nat.le_of_ble_eq_true rfl) ?_
  intro p e s m below meth c ls A hx hb hr hml hown hts hlocks hnm hK hP hD hA hX hS hl
  have hl : lv_has ls 1 [(0, .ref a)] := hl
  have hown : s.vm.findClass "MacroReckoner$Whole" = some m.cls := hown
  obtain ⟨H, hH⟩ : ∃ H : Heap, H = s.heap := ⟨_, rfl⟩
  obtain ⟨locs, hlo⟩ : ∃ L : List Loc, L = [] := ⟨_, rfl⟩
  have hP : va_P (dC, dI) vwCl (wWh dA a g F u []) H := hH ▸ hP
  have hS : va_S A s.heap H locs := by rw [hH, hlo]; exact hS
  suffices hgo : W p l e rmWh_isZero s m [.ref a].toArray below meth c H locs 0 0 (MQ below (qWh_isZero dC dI dA a g F u N A) [.ref a].toArray s 0 0 A) (F0 m 0 ls []) by rw [hH, hlo] at hgo; exact hgo
  clear hH hlo
  have hu := hW.1
  have hz := WR_z hW
  refine lv_aload_n hx hb dWh_isZero_0 rfl (lv_at hl 0 rfl) ?_
  refine va_get (D := (dC, dI)) (ci := 5) (v := .int (iI u)) (C := "MacroReckoner$Whole") (T := TWh) (N := 2) hx hb hts inWh hown hK hP 0 rfl rfl 1 (by decide) (hts _ wt1_93) (fun _ h9 => h9) rfl dWh_isZero_1 ?_
  refine iv_if_ne (tgt := 11) hx hb dWh_isZero_4 (by decide) ⟨by omega, by omega⟩ (fun hc4 => ?_) (fun hc4 => ?_)
  · refine lv_iconst (v := iI 0) hx hb dWh_isZero_11 rfl ?_
    exact rt_z hx hb hr hlocks hK hS dWh_isZero_12 (nrw_bool (by omega)) () hP hD (show (0 = 1 ∧ N = 0) ∨ (0 = 0 ∧ N ≠ 0) from by omega)
  · refine lv_iconst (v := iI 1) hx hb dWh_isZero_7 rfl ?_
    refine lv_goto (tgt := 12) hx hb dWh_isZero_8 (by decide) ?_
    exact rt_z hx hb hr hlocks hK hS dWh_isZero_12 (nrw_bool (by omega)) () hP hD (show (1 = 1 ∧ N = 0) ∨ (1 = 0 ∧ N ≠ 0) from by omega)

theorem dWh_lowest_0 : decode prog_7_method_3_code 0 = .ok (.aload_n 0, 1) := by decide +kernel
theorem dWh_lowest_1 : decode prog_7_method_3_code 1 = .ok (.getfield 13, 3) := by decide +kernel
theorem dWh_lowest_4 : decode prog_7_method_3_code 4 = .ok (.ifCond .ne 7, 3) := by decide +kernel
theorem dWh_lowest_7 : decode prog_7_method_3_code 7 = .ok (.iconst 0, 1) := by decide +kernel
theorem dWh_lowest_8 : decode prog_7_method_3_code 8 = .ok (.goto 9, 3) := by decide +kernel
theorem dWh_lowest_11 : decode prog_7_method_3_code 11 = .ok (.aload_n 0, 1) := by decide +kernel
theorem dWh_lowest_12 : decode prog_7_method_3_code 12 = .ok (.getfield 9, 3) := by decide +kernel
theorem dWh_lowest_15 : decode prog_7_method_3_code 15 = .ok (.iconst 0, 1) := by decide +kernel
theorem dWh_lowest_16 : decode prog_7_method_3_code 16 = .ok (.iaload, 1) := by decide +kernel
theorem dWh_lowest_17 : decode prog_7_method_3_code 17 = .ok (.ireturn, 1) := by decide +kernel
abbrev qWh_lowest (dC : Nat → ClassId) (dI : Nat → Nat → Nat) (dA : Nat → ClassId) (a : Nat) (g : Nat) (F : Int → Int) (u : Int) (N : Int) (A : Nat → Prop) : Array Value → State → Outcome → State → Prop := QI (dC, dI) vwCl (tyA dA) (fun (r : Int) (v_ : Unit) => r = N % 1000000000) (fun (v_ : Unit) => wWh dA a g F u []) A
abbrev rmWh_lowest : Room := { frames := 0, cells := 0, slots := 0, locals := 0 }
set_option maxRecDepth 100000 in
set_option maxHeartbeats 1000000 in
theorem cWh_lowest (l : Launch) (dC : Nat → ClassId) (dI : Nat → Nat → Nat) (dA : Nat → ClassId) (a : Nat) (g : Nat) (F : Int → Int) (u : Int) (N : Int) (hW : WR F u N) (sz : Nat) : Met l yWh_lowest wsWh_lowest rmWh_lowest (PC (dC, dI) vwCl (tyA dA) XN [.ref a] (wWh dA a g F u []) sz) (qWh_lowest dC dI dA a g F u N (va_A (wWh dA a g F u []) sz)) 0 0 (va_A (wWh dA a g F u []) sz) := by
  refine met_of (cc := prog_7_method_3_code) (maxL := 1) (ret := (some .int)) (Qc := qWh_lowest dC dI dA a g F u N) XN_ok (by decide) rfl (Nat.le_of_ble_eq_true rfl) ?_
  intro p e s m below meth c ls A hx hb hr hml hown hts hlocks hnm hK hP hD hA hX hS hl
  have hl : lv_has ls 1 [(0, .ref a)] := hl
  have hown : s.vm.findClass "MacroReckoner$Whole" = some m.cls := hown
  obtain ⟨H, hH⟩ : ∃ H : Heap, H = s.heap := ⟨_, rfl⟩
  obtain ⟨locs, hlo⟩ : ∃ L : List Loc, L = [] := ⟨_, rfl⟩
  have hP : va_P (dC, dI) vwCl (wWh dA a g F u []) H := hH ▸ hP
  have hS : va_S A s.heap H locs := by rw [hH, hlo]; exact hS
  suffices hgo : W p l e rmWh_lowest s m [.ref a].toArray below meth c H locs 0 0 (MQ below (qWh_lowest dC dI dA a g F u N A) [.ref a].toArray s 0 0 A) (F0 m 0 ls []) by rw [hH, hlo] at hgo; exact hgo
  clear hH hlo
  have hu := hW.1
  have hz := WR_z hW
  refine lv_aload_n hx hb dWh_lowest_0 rfl (lv_at hl 0 rfl) ?_
  refine va_get (D := (dC, dI)) (ci := 5) (v := .int (iI u)) (C := "MacroReckoner$Whole") (T := TWh) (N := 2) hx hb hts inWh hown hK hP 0 rfl rfl 1 (by decide) (hts _ wt1_93) (fun _ h9 => h9) rfl dWh_lowest_1 ?_
  refine iv_if_ne (tgt := 11) hx hb dWh_lowest_4 (by decide) ⟨by omega, by omega⟩ (fun hc4 => ?_) (fun hc4 => ?_)
  · refine lv_aload_n hx hb dWh_lowest_11 rfl (lv_at hl 0 rfl) ?_
    refine va_get (D := (dC, dI)) (ci := 5) (v := .ref g) (C := "MacroReckoner$Whole") (T := TWh) (N := 2) hx hb hts inWh hown hK hP 0 rfl rfl 0 (by decide) (hts _ wt1_92) (fun _ h9 => h9) rfl dWh_lowest_12 ?_
    refine lv_iconst (v := iI 0) hx hb dWh_lowest_15 rfl ?_
    refine iv_iald hx hb hK hP 1 0 rfl rfl (by decide) dWh_lowest_16 (by omega) (by omega) ?_
    exact rt_i hx hb hr hlocks hK hS dWh_lowest_17 () hP hD (show (F 0) = N % 1000000000 from by first | (have := WR_low hW (by omega); omega) | omega)
  · refine lv_iconst (v := iI 0) hx hb dWh_lowest_7 rfl ?_
    refine lv_goto (tgt := 17) hx hb dWh_lowest_8 (by decide) ?_
    exact rt_i hx hb hr hlocks hK hS dWh_lowest_17 () hP hD (show 0 = N % 1000000000 from by first | (have := WR_low hW (by omega); omega) | omega)

theorem dWh_trim_0 : decode prog_7_method_21_code 0 = .ok (.aload_n 0, 1) := by decide +kernel
theorem dWh_trim_1 : decode prog_7_method_21_code 1 = .ok (.getfield 13, 3) := by decide +kernel
theorem dWh_trim_4 : decode prog_7_method_21_code 4 = .ok (.ifCond .le 30, 3) := by decide +kernel
theorem dWh_trim_7 : decode prog_7_method_21_code 7 = .ok (.aload_n 0, 1) := by decide +kernel
theorem dWh_trim_8 : decode prog_7_method_21_code 8 = .ok (.getfield 9, 3) := by decide +kernel
theorem dWh_trim_11 : decode prog_7_method_21_code 11 = .ok (.aload_n 0, 1) := by decide +kernel
theorem dWh_trim_12 : decode prog_7_method_21_code 12 = .ok (.getfield 13, 3) := by decide +kernel
theorem dWh_trim_15 : decode prog_7_method_21_code 15 = .ok (.iconst 1, 1) := by decide +kernel
theorem dWh_trim_16 : decode prog_7_method_21_code 16 = .ok (.isub, 1) := by decide +kernel
theorem dWh_trim_17 : decode prog_7_method_21_code 17 = .ok (.iaload, 1) := by decide +kernel
theorem dWh_trim_18 : decode prog_7_method_21_code 18 = .ok (.ifCond .ne 16, 3) := by decide +kernel
theorem dWh_trim_21 : decode prog_7_method_21_code 21 = .ok (.aload_n 0, 1) := by decide +kernel
theorem dWh_trim_22 : decode prog_7_method_21_code 22 = .ok (.dup, 1) := by decide +kernel
theorem dWh_trim_23 : decode prog_7_method_21_code 23 = .ok (.getfield 13, 3) := by decide +kernel
theorem dWh_trim_26 : decode prog_7_method_21_code 26 = .ok (.iconst 1, 1) := by decide +kernel
theorem dWh_trim_27 : decode prog_7_method_21_code 27 = .ok (.isub, 1) := by decide +kernel
theorem dWh_trim_28 : decode prog_7_method_21_code 28 = .ok (.putfield 13, 3) := by decide +kernel
theorem dWh_trim_31 : decode prog_7_method_21_code 31 = .ok (.goto (-31), 3) := by decide +kernel
theorem dWh_trim_34 : decode prog_7_method_21_code 34 = .ok (.return_, 1) := by decide +kernel
abbrev qWh_trim (dC : Nat → ClassId) (dI : Nat → Nat → Nat) (dA : Nat → ClassId) (a : Nat) (g : Nat) (F : Int → Int) (u : Int) (N : Int) (A : Nat → Prop) : Array Value → State → Outcome → State → Prop := QV (dC, dI) vwCl (tyA dA) (fun (v_ : Int) => WR F v_ N) (fun (v_ : Int) => wWh dA a g F v_ []) A
abbrev rmWh_trim : Room := { frames := 0, cells := 0, slots := 0, locals := 0 }
set_option maxRecDepth 100000 in
set_option maxHeartbeats 1000000 in
theorem cWh_trim (l : Launch) (dC : Nat → ClassId) (dI : Nat → Nat → Nat) (dA : Nat → ClassId) (a : Nat) (g : Nat) (F : Int → Int) (u : Int) (N : Int) (hW : WD F u N) (sz : Nat) : Met l yWh_trim wsWh_trim rmWh_trim (PC (dC, dI) vwCl (tyA dA) XN [.ref a] (wWh dA a g F u []) sz) (qWh_trim dC dI dA a g F u N (va_A (wWh dA a g F u []) sz)) 0 0 (va_A (wWh dA a g F u []) sz) := by
  refine met_of (cc := prog_7_method_21_code) (maxL := 1) (ret := none) (Qc := qWh_trim dC dI dA a g F u N) XN_ok (by decide) rfl (Nat.le_of_ble_eq_true rfl) ?_
  intro p e s m below meth c ls A hx hb hr hml hown hts hlocks hnm hK hP hD hA hX hS hl
  have hl : lv_has ls 1 [(0, .ref a)] := hl
  have hown : s.vm.findClass "MacroReckoner$Whole" = some m.cls := hown
  obtain ⟨H, hH⟩ : ∃ H : Heap, H = s.heap := ⟨_, rfl⟩
  obtain ⟨locs, hlo⟩ : ∃ L : List Loc, L = [] := ⟨_, rfl⟩
  have hP : va_P (dC, dI) vwCl (wWh dA a g F u []) H := hH ▸ hP
  have hS : va_S A s.heap H locs := by rw [hH, hlo]; exact hS
  suffices hgo : W p l e rmWh_trim s m [.ref a].toArray below meth c H locs 0 0 (MQ below (qWh_trim dC dI dA a g F u N A) [.ref a].toArray s 0 0 A) (F0 m 0 ls []) by rw [hH, hlo] at hgo; exact hgo
  clear hH hlo
  have L0 : ∀ (n : Nat) (v : Int) (H : Heap) (locs : List Loc) (ls : Array Slot), (WD F v N) → (v).toNat < n → va_P (dC, dI) vwCl (wWh dA a g F v []) H → va_D A (wWh dA a g F v []) → va_S A s.heap H locs → lv_has ls 1 [(0, .ref a)] → W p l e rmWh_trim s m [.ref a].toArray below meth c H locs 0 0 (MQ below (qWh_trim dC dI dA a g F u N A) [.ref a].toArray s 0 0 A) (F0 m 0 ls []) := by
    intro n
    induction n with
    | zero => intro v H locs ls hJ hn; omega
    | succ n ih =>
      intro v H locs ls hJ hn hP hD hS hl
      have hu := hJ.1
      have ih0 := ih
      refine lv_aload_n hx hb dWh_trim_0 rfl (lv_at hl 0 rfl) ?_
      refine va_get (D := (dC, dI)) (ci := 5) (v := .int (iI v)) (C := "MacroReckoner$Whole") (T := TWh) (N := 2) hx hb hts inWh hown hK hP 0 rfl rfl 1 (by decide) (hts _ wt1_93) (fun _ h9 => h9) rfl dWh_trim_1 ?_
      refine iv_if_le (tgt := 34) hx hb dWh_trim_4 (by decide) ⟨by omega, by omega⟩ (fun hc4 => ?_) (fun hc4 => ?_)
      · exact rt_v hx hb hr hlocks hK hS dWh_trim_34 (v) hP hD (show WR F v N from by first | exact WD_t0 hJ (by omega) | exact WD_t1 hJ hc18)
      · refine lv_aload_n hx hb dWh_trim_7 rfl (lv_at hl 0 rfl) ?_
        refine va_get (D := (dC, dI)) (ci := 5) (v := .ref g) (C := "MacroReckoner$Whole") (T := TWh) (N := 2) hx hb hts inWh hown hK hP 0 rfl rfl 0 (by decide) (hts _ wt1_92) (fun _ h9 => h9) rfl dWh_trim_8 ?_
        refine lv_aload_n hx hb dWh_trim_11 rfl (lv_at hl 0 rfl) ?_
        refine va_get (D := (dC, dI)) (ci := 5) (v := .int (iI v)) (C := "MacroReckoner$Whole") (T := TWh) (N := 2) hx hb hts inWh hown hK hP 0 rfl rfl 1 (by decide) (hts _ wt1_93) (fun _ h9 => h9) rfl dWh_trim_12 ?_
        refine lv_iconst (v := iI 1) hx hb dWh_trim_15 rfl ?_
        refine iv_isub hx hb dWh_trim_16 ?_
        have hd := hJ.2.1 (v - 1) (by omega) (by omega)
        refine iv_iald hx hb hK hP 1 0 rfl rfl (by decide) dWh_trim_17 (by omega) (by omega) ?_
        refine iv_if_ne (tgt := 34) hx hb dWh_trim_18 (by decide) ⟨by omega, by omega⟩ (fun hc18 => ?_) (fun hc18 => ?_)
        · exact rt_v hx hb hr hlocks hK hS dWh_trim_34 (v) hP hD (show WR F v N from by first | exact WD_t0 hJ (by omega) | exact WD_t1 hJ hc18)
        · refine lv_aload_n hx hb dWh_trim_21 rfl (lv_at hl 0 rfl) ?_
          refine lv_dup hx hb dWh_trim_22 rfl ?_
          refine va_get (D := (dC, dI)) (ci := 5) (v := .int (iI v)) (C := "MacroReckoner$Whole") (T := TWh) (N := 2) hx hb hts inWh hown hK hP 0 rfl rfl 1 (by decide) (hts _ wt1_93) (fun _ h9 => h9) rfl dWh_trim_23 ?_
          refine lv_iconst (v := iI 1) hx hb dWh_trim_26 rfl ?_
          refine iv_isub hx hb dWh_trim_27 ?_
          refine va_put (D := (dC, dI)) (ci := 5) (v := .int (iI (v - 1))) (ty := .int) (C := "MacroReckoner$Whole") (T := TWh) (N := 2) hx hb hts inWh tyWh tyWh_ok nmWh hown hK hP hD hS 0 rfl rfl 1 (by decide) (hts _ wt1_93) (fun _ h9 => h9) rfl (by decide +kernel) rfl rfl (Nat.le_of_ble_eq_true rfl) dWh_trim_28 (fun H locs hP hD hS => ?_)
          have hP : va_P (dC, dI) vwCl (wWh dA a g F (v - 1) []) H := hP
          have hD : va_D A (wWh dA a g F (v - 1) []) := hD
          refine lv_goto (tgt := 0) hx hb dWh_trim_31 (by decide) ?_
          exact ih0 (v - 1) H locs ls (by exact WD_s hJ hc4 hc18) (by omega) hP hD hS (lv_sub hl [0] rfl)
  exact L0 _ u H locs ls (by exact hW) (Nat.lt_succ_self _) hP hD hS (lv_sub hl [0] rfl)

theorem dWh_timesSmallPlus_0 : decode prog_7_method_12_code 0 = .ok (.iload_n 2, 1) := by decide +kernel
theorem dWh_timesSmallPlus_1 : decode prog_7_method_12_code 1 = .ok (.i2l, 1) := by decide +kernel
theorem dWh_timesSmallPlus_2 : decode prog_7_method_12_code 2 = .ok (.lstore_n 3, 1) := by decide +kernel
theorem dWh_timesSmallPlus_3 : decode prog_7_method_12_code 3 = .ok (.iconst 0, 1) := by decide +kernel
theorem dWh_timesSmallPlus_4 : decode prog_7_method_12_code 4 = .ok (.istore 5, 2) := by decide +kernel
theorem dWh_timesSmallPlus_6 : decode prog_7_method_12_code 6 = .ok (.iload 5, 2) := by decide +kernel
theorem dWh_timesSmallPlus_8 : decode prog_7_method_12_code 8 = .ok (.aload_n 0, 1) := by decide +kernel
theorem dWh_timesSmallPlus_9 : decode prog_7_method_12_code 9 = .ok (.getfield 13, 3) := by decide +kernel
theorem dWh_timesSmallPlus_12 : decode prog_7_method_12_code 12 = .ok (.if_icmp .ge 42, 3) := by decide +kernel
theorem dWh_timesSmallPlus_15 : decode prog_7_method_12_code 15 = .ok (.lload_n 3, 1) := by decide +kernel
theorem dWh_timesSmallPlus_16 : decode prog_7_method_12_code 16 = .ok (.aload_n 0, 1) := by decide +kernel
theorem dWh_timesSmallPlus_17 : decode prog_7_method_12_code 17 = .ok (.getfield 9, 3) := by decide +kernel
theorem dWh_timesSmallPlus_20 : decode prog_7_method_12_code 20 = .ok (.iload 5, 2) := by decide +kernel
theorem dWh_timesSmallPlus_22 : decode prog_7_method_12_code 22 = .ok (.iaload, 1) := by decide +kernel
theorem dWh_timesSmallPlus_23 : decode prog_7_method_12_code 23 = .ok (.i2l, 1) := by decide +kernel
theorem dWh_timesSmallPlus_24 : decode prog_7_method_12_code 24 = .ok (.iload_n 1, 1) := by decide +kernel
theorem dWh_timesSmallPlus_25 : decode prog_7_method_12_code 25 = .ok (.i2l, 1) := by decide +kernel
theorem dWh_timesSmallPlus_26 : decode prog_7_method_12_code 26 = .ok (.lmul, 1) := by decide +kernel
theorem dWh_timesSmallPlus_27 : decode prog_7_method_12_code 27 = .ok (.ladd, 1) := by decide +kernel
theorem dWh_timesSmallPlus_28 : decode prog_7_method_12_code 28 = .ok (.lstore_n 3, 1) := by decide +kernel
theorem dWh_timesSmallPlus_29 : decode prog_7_method_12_code 29 = .ok (.aload_n 0, 1) := by decide +kernel
theorem dWh_timesSmallPlus_30 : decode prog_7_method_12_code 30 = .ok (.getfield 9, 3) := by decide +kernel
theorem dWh_timesSmallPlus_33 : decode prog_7_method_12_code 33 = .ok (.iload 5, 2) := by decide +kernel
theorem dWh_timesSmallPlus_35 : decode prog_7_method_12_code 35 = .ok (.lload_n 3, 1) := by decide +kernel
theorem dWh_timesSmallPlus_36 : decode prog_7_method_12_code 36 = .ok (.ldc2_w 46, 3) := by decide +kernel
theorem dWh_timesSmallPlus_39 : decode prog_7_method_12_code 39 = .ok (.lrem, 1) := by decide +kernel
theorem dWh_timesSmallPlus_40 : decode prog_7_method_12_code 40 = .ok (.l2i, 1) := by decide +kernel
theorem dWh_timesSmallPlus_41 : decode prog_7_method_12_code 41 = .ok (.iastore, 1) := by decide +kernel
theorem dWh_timesSmallPlus_42 : decode prog_7_method_12_code 42 = .ok (.lload_n 3, 1) := by decide +kernel
theorem dWh_timesSmallPlus_43 : decode prog_7_method_12_code 43 = .ok (.ldc2_w 46, 3) := by decide +kernel
theorem dWh_timesSmallPlus_46 : decode prog_7_method_12_code 46 = .ok (.ldiv, 1) := by decide +kernel
theorem dWh_timesSmallPlus_47 : decode prog_7_method_12_code 47 = .ok (.lstore_n 3, 1) := by decide +kernel
theorem dWh_timesSmallPlus_48 : decode prog_7_method_12_code 48 = .ok (.iinc 5 1, 3) := by decide +kernel
theorem dWh_timesSmallPlus_51 : decode prog_7_method_12_code 51 = .ok (.goto (-45), 3) := by decide +kernel
theorem dWh_timesSmallPlus_54 : decode prog_7_method_12_code 54 = .ok (.lload_n 3, 1) := by decide +kernel
theorem dWh_timesSmallPlus_55 : decode prog_7_method_12_code 55 = .ok (.lconst 0, 1) := by decide +kernel
theorem dWh_timesSmallPlus_56 : decode prog_7_method_12_code 56 = .ok (.lcmp, 1) := by decide +kernel
theorem dWh_timesSmallPlus_57 : decode prog_7_method_12_code 57 = .ok (.ifCond .le 33, 3) := by decide +kernel
theorem dWh_timesSmallPlus_60 : decode prog_7_method_12_code 60 = .ok (.aload_n 0, 1) := by decide +kernel
theorem dWh_timesSmallPlus_61 : decode prog_7_method_12_code 61 = .ok (.getfield 13, 3) := by decide +kernel
theorem dWh_timesSmallPlus_64 : decode prog_7_method_12_code 64 = .ok (.bipush 32, 2) := by decide +kernel
theorem dWh_timesSmallPlus_66 : decode prog_7_method_12_code 66 = .ok (.if_icmp .ge 24, 3) := by decide +kernel
theorem dWh_timesSmallPlus_69 : decode prog_7_method_12_code 69 = .ok (.aload_n 0, 1) := by decide +kernel
theorem dWh_timesSmallPlus_70 : decode prog_7_method_12_code 70 = .ok (.getfield 9, 3) := by decide +kernel
theorem dWh_timesSmallPlus_73 : decode prog_7_method_12_code 73 = .ok (.aload_n 0, 1) := by decide +kernel
theorem dWh_timesSmallPlus_74 : decode prog_7_method_12_code 74 = .ok (.getfield 13, 3) := by decide +kernel
theorem dWh_timesSmallPlus_77 : decode prog_7_method_12_code 77 = .ok (.lload_n 3, 1) := by decide +kernel
theorem dWh_timesSmallPlus_78 : decode prog_7_method_12_code 78 = .ok (.l2i, 1) := by decide +kernel
theorem dWh_timesSmallPlus_79 : decode prog_7_method_12_code 79 = .ok (.iastore, 1) := by decide +kernel
theorem dWh_timesSmallPlus_80 : decode prog_7_method_12_code 80 = .ok (.aload_n 0, 1) := by decide +kernel
theorem dWh_timesSmallPlus_81 : decode prog_7_method_12_code 81 = .ok (.dup, 1) := by decide +kernel
theorem dWh_timesSmallPlus_82 : decode prog_7_method_12_code 82 = .ok (.getfield 13, 3) := by decide +kernel
theorem dWh_timesSmallPlus_85 : decode prog_7_method_12_code 85 = .ok (.iconst 1, 1) := by decide +kernel
theorem dWh_timesSmallPlus_86 : decode prog_7_method_12_code 86 = .ok (.iadd, 1) := by decide +kernel
theorem dWh_timesSmallPlus_87 : decode prog_7_method_12_code 87 = .ok (.putfield 13, 3) := by decide +kernel
theorem dWh_timesSmallPlus_90 : decode prog_7_method_12_code 90 = .ok (.return_, 1) := by decide +kernel
abbrev qWh_timesSmallPlus (dC : Nat → ClassId) (dI : Nat → Nat → Nat) (dA : Nat → ClassId) (a : Nat) (g : Nat) (F : Int → Int) (u : Int) (N : Int) (fac : Int) (more : Int) (A : Nat → Prop) : Array Value → State → Outcome → State → Prop := QV (dC, dI) vwCl (tyA dA) (fun (v_ : (Int → Int) × Int) => WR v_.1 v_.2 (N * fac + more)) (fun (v_ : (Int → Int) × Int) => wWh dA a g v_.1 v_.2 []) A
abbrev rmWh_timesSmallPlus : Room := { frames := 0, cells := 0, slots := 0, locals := 0 }
set_option maxRecDepth 100000 in
set_option maxHeartbeats 1000000 in
theorem cWh_timesSmallPlus (l : Launch) (dC : Nat → ClassId) (dI : Nat → Nat → Nat) (dA : Nat → ClassId) (a : Nat) (g : Nat) (F : Int → Int) (u : Int) (N : Int) (fac : Int) (more : Int) (hW : WR F u N) (hf : 1 ≤ fac ∧ fac ≤ 1000000000) (hm : 0 ≤ more ∧ more < fac) (hbd : N * fac + more < PW 1000000000 32) (sz : Nat) : Met l yWh_timesSmallPlus wsWh_timesSmallPlus rmWh_timesSmallPlus (PC (dC, dI) vwCl (tyA dA) XN [.ref a, .int (iI fac), .int (iI more)] (wWh dA a g F u []) sz) (qWh_timesSmallPlus dC dI dA a g F u N fac more (va_A (wWh dA a g F u []) sz)) 0 0 (va_A (wWh dA a g F u []) sz) := by
  refine met_of (cc := prog_7_method_12_code) (maxL := 6) (ret := none) (Qc := qWh_timesSmallPlus dC dI dA a g F u N fac more) XN_ok (by decide) rfl (Nat.le_of_ble_eq_true rfl) ?_
  intro p e s m below meth c ls A hx hb hr hml hown hts hlocks hnm hK hP hD hA hX hS hl
  have hl : lv_has ls 6 [(0, .ref a), (1, .int (iI fac)), (2, .int (iI more))] := hl
  have hown : s.vm.findClass "MacroReckoner$Whole" = some m.cls := hown
  obtain ⟨H, hH⟩ : ∃ H : Heap, H = s.heap := ⟨_, rfl⟩
  obtain ⟨locs, hlo⟩ : ∃ L : List Loc, L = [] := ⟨_, rfl⟩
  have hP : va_P (dC, dI) vwCl (wWh dA a g F u []) H := hH ▸ hP
  have hS : va_S A s.heap H locs := by rw [hH, hlo]; exact hS
  suffices hgo : W p l e rmWh_timesSmallPlus s m [.ref a, .int (iI fac), .int (iI more)].toArray below meth c H locs 0 0 (MQ below (qWh_timesSmallPlus dC dI dA a g F u N fac more A) [.ref a, .int (iI fac), .int (iI more)].toArray s 0 0 A) (F0 m 0 ls []) by rw [hH, hlo] at hgo; exact hgo
  clear hH hlo
  have hu := hW.1
  refine lv_iload_n hx hb dWh_timesSmallPlus_0 rfl (lv_at hl 2 rfl) ?_
  refine iv_i2l hx hb dWh_timesSmallPlus_1 ⟨by omega, by omega⟩ ?_
  refine lv_lstore_n (lv' := [(3, .long (iL more)), (0, .ref a), (1, .int (iI fac)), (2, .int (iI more))]) hx hb dWh_timesSmallPlus_2 rfl hl (by decide) rfl (fun ls hl => ?_)
  refine lv_iconst (v := iI 0) hx hb dWh_timesSmallPlus_3 rfl ?_
  refine lv_istore (lv' := [(5, .int (iI 0)), (3, .long (iL more)), (0, .ref a), (1, .int (iI fac)), (2, .int (iI more))]) hx hb dWh_timesSmallPlus_4 hl (by decide) rfl (fun ls hl => ?_)
  have L6 : ∀ (n : Nat) (F9 : Int → Int) (cy : Int) (i : Int) (H : Heap) (locs : List Loc) (ls : Array Slot), (i ≤ u) → (tspJ F fac more F9 cy i) → (u - i).toNat < n → va_P (dC, dI) vwCl (wWh dA a g F9 u []) H → va_D A (wWh dA a g F9 u []) → va_S A s.heap H locs → lv_has ls 6 [(5, .int (iI i)), (3, .long (iL cy)), (0, .ref a), (1, .int (iI fac)), (2, .int (iI more))] → W p l e rmWh_timesSmallPlus s m [.ref a, .int (iI fac), .int (iI more)].toArray below meth c H locs 0 0 (MQ below (qWh_timesSmallPlus dC dI dA a g F u N fac more A) [.ref a, .int (iI fac), .int (iI more)].toArray s 0 0 A) (F0 m 6 ls []) := by
    intro n
    induction n with
    | zero => intro F9 cy i H locs ls hi hJ hn; omega
    | succ n ih =>
      intro F9 cy i H locs ls hi hJ hn hP hD hS hl
      have hj := hJ.1
      have hj2 := hJ.2.1
      have hj3 := hJ.2.2.1
      have ih6 := ih
      refine lv_iload hx hb dWh_timesSmallPlus_6 (lv_at hl 0 rfl) ?_
      refine lv_aload_n hx hb dWh_timesSmallPlus_8 rfl (lv_at hl 2 rfl) ?_
      refine va_get (D := (dC, dI)) (ci := 5) (v := .int (iI u)) (C := "MacroReckoner$Whole") (T := TWh) (N := 2) hx hb hts inWh hown hK hP 0 rfl rfl 1 (by decide) (hts _ wt1_93) (fun _ h9 => h9) rfl dWh_timesSmallPlus_9 ?_
      refine iv_icmp_ge (tgt := 54) hx hb dWh_timesSmallPlus_12 (by decide) ⟨by omega, by omega⟩ ⟨by omega, by omega⟩ (fun hc12 => ?_) (fun hc12 => ?_)
      · refine lv_lload_n hx hb dWh_timesSmallPlus_54 rfl (lv_at hl 1 rfl) ?_
        refine lv_lconst (v := iL 0) hx hb dWh_timesSmallPlus_55 rfl ?_
        refine iv_lcmp_le (tgt := 90) hx hb dWh_timesSmallPlus_56 dWh_timesSmallPlus_57 (by decide) ⟨by omega, by omega⟩ ⟨by decide, by decide⟩ (fun hc57 => ?_) (fun hc57 => ?_)
        · exact rt_v hx hb hr hlocks hK hS dWh_timesSmallPlus_90 (F9, u) hP hD (show WR F9 u (N * fac + more) from by first | exact tsp_e0 hW (show tspJ F fac more F9 cy u from (show i = u by omega) ▸ hJ) hf.1 hm.1 (by omega) | exact tsp_e1 hW (show tspJ F fac more F9 cy u from (show i = u by omega) ▸ hJ) hf.2 (by omega) (by omega) | exact absurd (tsp_e2 hW (show tspJ F fac more F9 cy u from (show i = u by omega) ▸ hJ) (by omega) hbd) (by omega))
        · refine lv_aload_n hx hb dWh_timesSmallPlus_60 rfl (lv_at hl 2 rfl) ?_
          refine va_get (D := (dC, dI)) (ci := 5) (v := .int (iI u)) (C := "MacroReckoner$Whole") (T := TWh) (N := 2) hx hb hts inWh hown hK hP 0 rfl rfl 1 (by decide) (hts _ wt1_93) (fun _ h9 => h9) rfl dWh_timesSmallPlus_61 ?_
          refine lv_bipush (v := iI 32) hx hb dWh_timesSmallPlus_64 (by decide) ?_
          refine iv_icmp_ge (tgt := 90) hx hb dWh_timesSmallPlus_66 (by decide) ⟨by omega, by omega⟩ ⟨by decide, by decide⟩ (fun hc66 => ?_) (fun hc66 => ?_)
          · exact rt_v hx hb hr hlocks hK hS dWh_timesSmallPlus_90 (F9, u) hP hD (show WR F9 u (N * fac + more) from by first | exact tsp_e0 hW (show tspJ F fac more F9 cy u from (show i = u by omega) ▸ hJ) hf.1 hm.1 (by omega) | exact tsp_e1 hW (show tspJ F fac more F9 cy u from (show i = u by omega) ▸ hJ) hf.2 (by omega) (by omega) | exact absurd (tsp_e2 hW (show tspJ F fac more F9 cy u from (show i = u by omega) ▸ hJ) (by omega) hbd) (by omega))
          · refine lv_aload_n hx hb dWh_timesSmallPlus_69 rfl (lv_at hl 2 rfl) ?_
            refine va_get (D := (dC, dI)) (ci := 5) (v := .ref g) (C := "MacroReckoner$Whole") (T := TWh) (N := 2) hx hb hts inWh hown hK hP 0 rfl rfl 0 (by decide) (hts _ wt1_92) (fun _ h9 => h9) rfl dWh_timesSmallPlus_70 ?_
            refine lv_aload_n hx hb dWh_timesSmallPlus_73 rfl (lv_at hl 2 rfl) ?_
            refine va_get (D := (dC, dI)) (ci := 5) (v := .int (iI u)) (C := "MacroReckoner$Whole") (T := TWh) (N := 2) hx hb hts inWh hown hK hP 0 rfl rfl 1 (by decide) (hts _ wt1_93) (fun _ h9 => h9) rfl dWh_timesSmallPlus_74 ?_
            refine lv_lload_n hx hb dWh_timesSmallPlus_77 rfl (lv_at hl 1 rfl) ?_
            refine iv_l2i hx hb dWh_timesSmallPlus_78 ?_
            refine iv_iast (v := cy) hx hb hK hP hD hS 1 0 rfl rfl (by decide) dWh_timesSmallPlus_79 (by omega) (by omega) (fun H locs hP hD hS => ?_)
            have hP : va_P (dC, dI) vwCl (wWh dA a g (up F9 u cy) u []) H := hP
            have hD : va_D A (wWh dA a g (up F9 u cy) u []) := hD
            refine lv_aload_n hx hb dWh_timesSmallPlus_80 rfl (lv_at hl 2 rfl) ?_
            refine lv_dup hx hb dWh_timesSmallPlus_81 rfl ?_
            refine va_get (D := (dC, dI)) (ci := 5) (v := .int (iI u)) (C := "MacroReckoner$Whole") (T := TWh) (N := 2) hx hb hts inWh hown hK hP 0 rfl rfl 1 (by decide) (hts _ wt1_93) (fun _ h9 => h9) rfl dWh_timesSmallPlus_82 ?_
            refine lv_iconst (v := iI 1) hx hb dWh_timesSmallPlus_85 rfl ?_
            refine iv_iadd hx hb dWh_timesSmallPlus_86 ?_
            refine va_put (D := (dC, dI)) (ci := 5) (v := .int (iI (u + 1))) (ty := .int) (C := "MacroReckoner$Whole") (T := TWh) (N := 2) hx hb hts inWh tyWh tyWh_ok nmWh hown hK hP hD hS 0 rfl rfl 1 (by decide) (hts _ wt1_93) (fun _ h9 => h9) rfl (by decide +kernel) rfl rfl (Nat.le_of_ble_eq_true rfl) dWh_timesSmallPlus_87 (fun H locs hP hD hS => ?_)
            have hP : va_P (dC, dI) vwCl (wWh dA a g (up F9 u cy) (u + 1) []) H := hP
            have hD : va_D A (wWh dA a g (up F9 u cy) (u + 1) []) := hD
            exact rt_v hx hb hr hlocks hK hS dWh_timesSmallPlus_90 (up F9 u cy, u + 1) hP hD (show WR (up F9 u cy) (u + 1) (N * fac + more) from by first | exact tsp_e0 hW (show tspJ F fac more F9 cy u from (show i = u by omega) ▸ hJ) hf.1 hm.1 (by omega) | exact tsp_e1 hW (show tspJ F fac more F9 cy u from (show i = u by omega) ▸ hJ) hf.2 (by omega) (by omega) | exact absurd (tsp_e2 hW (show tspJ F fac more F9 cy u from (show i = u by omega) ▸ hJ) (by omega) hbd) (by omega))
      · have hd := hW.2.1 i hJ.1 hc12
        have hx9 := tsp_x hJ hf.2 hd
        have hFi := hJ.2.2.2.2.1 i (Int.le_refl i)
        refine lv_lload_n hx hb dWh_timesSmallPlus_15 rfl (lv_at hl 1 rfl) ?_
        refine lv_aload_n hx hb dWh_timesSmallPlus_16 rfl (lv_at hl 2 rfl) ?_
        refine va_get (D := (dC, dI)) (ci := 5) (v := .ref g) (C := "MacroReckoner$Whole") (T := TWh) (N := 2) hx hb hts inWh hown hK hP 0 rfl rfl 0 (by decide) (hts _ wt1_92) (fun _ h9 => h9) rfl dWh_timesSmallPlus_17 ?_
        refine lv_iload hx hb dWh_timesSmallPlus_20 (lv_at hl 0 rfl) ?_
        refine iv_iald hx hb hK hP 1 0 rfl rfl (by decide) dWh_timesSmallPlus_22 (by omega) (by omega) ?_
        refine iv_i2l hx hb dWh_timesSmallPlus_23 ⟨by omega, by omega⟩ ?_
        refine lv_iload_n hx hb dWh_timesSmallPlus_24 rfl (lv_at hl 3 rfl) ?_
        refine iv_i2l hx hb dWh_timesSmallPlus_25 ⟨by omega, by omega⟩ ?_
        refine iv_lmul hx hb dWh_timesSmallPlus_26 ?_
        refine iv_ladd hx hb dWh_timesSmallPlus_27 ?_
        refine lv_lstore_n (lv' := [(3, .long (iL (cy + ((F9 i) * fac)))), (5, .int (iI i)), (0, .ref a), (1, .int (iI fac)), (2, .int (iI more))]) hx hb dWh_timesSmallPlus_28 rfl hl (by decide) rfl (fun ls hl => ?_)
        refine lv_aload_n hx hb dWh_timesSmallPlus_29 rfl (lv_at hl 2 rfl) ?_
        refine va_get (D := (dC, dI)) (ci := 5) (v := .ref g) (C := "MacroReckoner$Whole") (T := TWh) (N := 2) hx hb hts inWh hown hK hP 0 rfl rfl 0 (by decide) (hts _ wt1_92) (fun _ h9 => h9) rfl dWh_timesSmallPlus_30 ?_
        refine lv_iload hx hb dWh_timesSmallPlus_33 (lv_at hl 1 rfl) ?_
        refine lv_lload_n hx hb dWh_timesSmallPlus_35 rfl (lv_at hl 0 rfl) ?_
        refine lv_ldc2 (v := iL 1000000000) hx hb hown ((by decide : (1000000000 : Int64) = iL 1000000000) ▸ hts _ wt3_21) dWh_timesSmallPlus_36 ?_
        refine iv_lrem hx hb dWh_timesSmallPlus_39 (by omega) ⟨by omega, by omega⟩ (by omega) ⟨by decide, by decide⟩ ?_
        refine iv_l2i hx hb dWh_timesSmallPlus_40 ?_
        refine iv_iast (v := (cy + ((F9 i) * fac)) % 1000000000) hx hb hK hP hD hS 1 0 rfl rfl (by decide) dWh_timesSmallPlus_41 (by omega) (by omega) (fun H locs hP hD hS => ?_)
        have hP : va_P (dC, dI) vwCl (wWh dA a g (up F9 i ((cy + ((F9 i) * fac)) % 1000000000)) u []) H := hP
        have hD : va_D A (wWh dA a g (up F9 i ((cy + ((F9 i) * fac)) % 1000000000)) u []) := hD
        refine lv_lload_n hx hb dWh_timesSmallPlus_42 rfl (lv_at hl 0 rfl) ?_
        refine lv_ldc2 (v := iL 1000000000) hx hb hown ((by decide : (1000000000 : Int64) = iL 1000000000) ▸ hts _ wt3_21) dWh_timesSmallPlus_43 ?_
        refine iv_ldiv hx hb dWh_timesSmallPlus_46 (by omega) ⟨by omega, by omega⟩ (by omega) ⟨by decide, by decide⟩ ?_
        refine lv_lstore_n (lv' := [(3, .long (iL ((cy + ((F9 i) * fac)) / 1000000000))), (5, .int (iI i)), (0, .ref a), (1, .int (iI fac)), (2, .int (iI more))]) hx hb dWh_timesSmallPlus_47 rfl hl (by decide) rfl (fun ls hl => ?_)
        refine lv_iinc (k := 1) (lv' := [(5, .int (iI (i + 1))), (3, .long (iL ((cy + ((F9 i) * fac)) / 1000000000))), (0, .ref a), (1, .int (iI fac)), (2, .int (iI more))]) (v := iI (i + 1)) hx hb dWh_timesSmallPlus_48 hl rfl (iI_add _ _).symm (by decide) rfl (fun ls hl => ?_)
        refine lv_goto (tgt := 6) hx hb dWh_timesSmallPlus_51 (by decide) ?_
        exact ih6 (up F9 i ((cy + ((F9 i) * fac)) % 1000000000)) ((cy + ((F9 i) * fac)) / 1000000000) (i + 1) H locs ls (by omega) (by exact tsp_s hJ hf.2 hd) (by omega) hP hD hS (lv_sub hl [0, 1, 2, 3, 4] rfl)
  exact L6 _ F more 0 H locs ls (by omega) (by exact tsp_0 hm.1 hm.2) (Nat.lt_succ_self _) hP hD hS (lv_sub hl [0, 1, 2, 3, 4] rfl)

theorem dWh_size_0 : decode prog_7_method_4_code 0 = .ok (.aload_n 0, 1) := by decide +kernel
theorem dWh_size_1 : decode prog_7_method_4_code 1 = .ok (.getfield 13, 3) := by decide +kernel
theorem dWh_size_4 : decode prog_7_method_4_code 4 = .ok (.ifCond .ne 5, 3) := by decide +kernel
theorem dWh_size_7 : decode prog_7_method_4_code 7 = .ok (.iconst 0, 1) := by decide +kernel
theorem dWh_size_8 : decode prog_7_method_4_code 8 = .ok (.ireturn, 1) := by decide +kernel
theorem dWh_size_9 : decode prog_7_method_4_code 9 = .ok (.aload_n 0, 1) := by decide +kernel
theorem dWh_size_10 : decode prog_7_method_4_code 10 = .ok (.getfield 9, 3) := by decide +kernel
theorem dWh_size_13 : decode prog_7_method_4_code 13 = .ok (.aload_n 0, 1) := by decide +kernel
theorem dWh_size_14 : decode prog_7_method_4_code 14 = .ok (.getfield 13, 3) := by decide +kernel
theorem dWh_size_17 : decode prog_7_method_4_code 17 = .ok (.iconst 1, 1) := by decide +kernel
theorem dWh_size_18 : decode prog_7_method_4_code 18 = .ok (.isub, 1) := by decide +kernel
theorem dWh_size_19 : decode prog_7_method_4_code 19 = .ok (.iaload, 1) := by decide +kernel
theorem dWh_size_20 : decode prog_7_method_4_code 20 = .ok (.istore_n 1, 1) := by decide +kernel
theorem dWh_size_21 : decode prog_7_method_4_code 21 = .ok (.aload_n 0, 1) := by decide +kernel
theorem dWh_size_22 : decode prog_7_method_4_code 22 = .ok (.getfield 13, 3) := by decide +kernel
theorem dWh_size_25 : decode prog_7_method_4_code 25 = .ok (.iconst 1, 1) := by decide +kernel
theorem dWh_size_26 : decode prog_7_method_4_code 26 = .ok (.isub, 1) := by decide +kernel
theorem dWh_size_27 : decode prog_7_method_4_code 27 = .ok (.bipush 9, 2) := by decide +kernel
theorem dWh_size_29 : decode prog_7_method_4_code 29 = .ok (.imul, 1) := by decide +kernel
theorem dWh_size_30 : decode prog_7_method_4_code 30 = .ok (.istore_n 2, 1) := by decide +kernel
theorem dWh_size_31 : decode prog_7_method_4_code 31 = .ok (.iconst 0, 1) := by decide +kernel
theorem dWh_size_32 : decode prog_7_method_4_code 32 = .ok (.istore_n 3, 1) := by decide +kernel
theorem dWh_size_33 : decode prog_7_method_4_code 33 = .ok (.iload_n 3, 1) := by decide +kernel
theorem dWh_size_34 : decode prog_7_method_4_code 34 = .ok (.bipush 9, 2) := by decide +kernel
theorem dWh_size_36 : decode prog_7_method_4_code 36 = .ok (.if_icmp .ge 21, 3) := by decide +kernel
theorem dWh_size_39 : decode prog_7_method_4_code 39 = .ok (.iload_n 1, 1) := by decide +kernel
theorem dWh_size_40 : decode prog_7_method_4_code 40 = .ok (.getstatic 17, 3) := by decide +kernel
theorem dWh_size_43 : decode prog_7_method_4_code 43 = .ok (.iload_n 3, 1) := by decide +kernel
theorem dWh_size_44 : decode prog_7_method_4_code 44 = .ok (.iaload, 1) := by decide +kernel
theorem dWh_size_45 : decode prog_7_method_4_code 45 = .ok (.if_icmp .lt 12, 3) := by decide +kernel
theorem dWh_size_48 : decode prog_7_method_4_code 48 = .ok (.iinc 2 1, 3) := by decide +kernel
theorem dWh_size_51 : decode prog_7_method_4_code 51 = .ok (.iinc 3 1, 3) := by decide +kernel
theorem dWh_size_54 : decode prog_7_method_4_code 54 = .ok (.goto (-21), 3) := by decide +kernel
theorem dWh_size_57 : decode prog_7_method_4_code 57 = .ok (.iload_n 2, 1) := by decide +kernel
theorem dWh_size_58 : decode prog_7_method_4_code 58 = .ok (.ireturn, 1) := by decide +kernel
abbrev qWh_size (dC : Nat → ClassId) (dI : Nat → Nat → Nat) (dA : Nat → ClassId) (dS : Nat → Nat) (a : Nat) (g : Nat) (F : Int → Int) (u : Int) (N : Int) (A : Nat → Prop) : Array Value → State → Outcome → State → Prop := QI (dC, dI) vwCl (tyA dA) (fun (r : Int) (v_ : Unit) => DL N r) (fun (v_ : Unit) => wWh dA a g F u []) A
abbrev rmWh_size : Room := { frames := 0, cells := 0, slots := 0, locals := 0 }
set_option maxRecDepth 100000 in
set_option maxHeartbeats 1000000 in
theorem cWh_size (l : Launch) (dC : Nat → ClassId) (dI : Nat → Nat → Nat) (dA : Nat → ClassId) (dS : Nat → Nat) (a : Nat) (g : Nat) (F : Int → Int) (u : Int) (N : Int) (hW : WR F u N) (sz : Nat) : Met l yWh_size wsWh_size rmWh_size (PC (dC, dI) vwCl (tyA dA) (XC dS) [.ref a] (wWh dA a g F u []) sz) (qWh_size dC dI dA dS a g F u N (va_A (wWh dA a g F u []) sz)) 0 0 (va_A (wWh dA a g F u []) sz) := by
  refine met_of (cc := prog_7_method_4_code) (maxL := 4) (ret := (some .int)) (Qc := qWh_size dC dI dA dS a g F u N) (XC_ok dS) (by decide) rfl (Nat.le_of_ble_eq_true rfl) ?_
  intro p e s m below meth c ls A hx hb hr hml hown hts hlocks hnm hK hP hD hA hX hS hl
  have hl : lv_has ls 4 [(0, .ref a)] := hl
  have hown : s.vm.findClass "MacroReckoner$Whole" = some m.cls := hown
  obtain ⟨H, hH⟩ : ∃ H : Heap, H = s.heap := ⟨_, rfl⟩
  obtain ⟨locs, hlo⟩ : ∃ L : List Loc, L = [] := ⟨_, rfl⟩
  have hP : va_P (dC, dI) vwCl (wWh dA a g F u []) H := hH ▸ hP
  have hS : va_S A s.heap H locs := by rw [hH, hlo]; exact hS
  suffices hgo : W p l e rmWh_size s m [.ref a].toArray below meth c H locs 0 0 (MQ below (qWh_size dC dI dA dS a g F u N A) [.ref a].toArray s 0 0 A) (F0 m 0 ls []) by rw [hH, hlo] at hgo; exact hgo
  clear hH hlo
  have hu := hW.1
  have hz := WR_z hW
  refine lv_aload_n hx hb dWh_size_0 rfl (lv_at hl 0 rfl) ?_
  refine va_get (D := (dC, dI)) (ci := 5) (v := .int (iI u)) (C := "MacroReckoner$Whole") (T := TWh) (N := 2) hx hb hts inWh hown hK hP 0 rfl rfl 1 (by decide) (hts _ wt1_93) (fun _ h9 => h9) rfl dWh_size_1 ?_
  refine iv_if_ne (tgt := 9) hx hb dWh_size_4 (by decide) ⟨by omega, by omega⟩ (fun hc4 => ?_) (fun hc4 => ?_)
  · have hd := hW.2.1 (u - 1) (by omega) (by omega)
    refine lv_aload_n hx hb dWh_size_9 rfl (lv_at hl 0 rfl) ?_
    refine va_get (D := (dC, dI)) (ci := 5) (v := .ref g) (C := "MacroReckoner$Whole") (T := TWh) (N := 2) hx hb hts inWh hown hK hP 0 rfl rfl 0 (by decide) (hts _ wt1_92) (fun _ h9 => h9) rfl dWh_size_10 ?_
    refine lv_aload_n hx hb dWh_size_13 rfl (lv_at hl 0 rfl) ?_
    refine va_get (D := (dC, dI)) (ci := 5) (v := .int (iI u)) (C := "MacroReckoner$Whole") (T := TWh) (N := 2) hx hb hts inWh hown hK hP 0 rfl rfl 1 (by decide) (hts _ wt1_93) (fun _ h9 => h9) rfl dWh_size_14 ?_
    refine lv_iconst (v := iI 1) hx hb dWh_size_17 rfl ?_
    refine iv_isub hx hb dWh_size_18 ?_
    refine iv_iald hx hb hK hP 1 0 rfl rfl (by decide) dWh_size_19 (by omega) (by omega) ?_
    refine lv_istore_n (lv' := [(1, .int (iI (F (u - 1)))), (0, .ref a)]) hx hb dWh_size_20 rfl hl (by decide) rfl (fun ls hl => ?_)
    refine lv_aload_n hx hb dWh_size_21 rfl (lv_at hl 1 rfl) ?_
    refine va_get (D := (dC, dI)) (ci := 5) (v := .int (iI u)) (C := "MacroReckoner$Whole") (T := TWh) (N := 2) hx hb hts inWh hown hK hP 0 rfl rfl 1 (by decide) (hts _ wt1_93) (fun _ h9 => h9) rfl dWh_size_22 ?_
    refine lv_iconst (v := iI 1) hx hb dWh_size_25 rfl ?_
    refine iv_isub hx hb dWh_size_26 ?_
    refine lv_bipush (v := iI 9) hx hb dWh_size_27 (by decide) ?_
    refine iv_imul hx hb dWh_size_29 ?_
    refine lv_istore_n (lv' := [(2, .int (iI ((u - 1) * 9))), (1, .int (iI (F (u - 1)))), (0, .ref a)]) hx hb dWh_size_30 rfl hl (by decide) rfl (fun ls hl => ?_)
    refine lv_iconst (v := iI 0) hx hb dWh_size_31 rfl ?_
    refine lv_istore_n (lv' := [(3, .int (iI 0)), (2, .int (iI ((u - 1) * 9))), (1, .int (iI (F (u - 1)))), (0, .ref a)]) hx hb dWh_size_32 rfl hl (by decide) rfl (fun ls hl => ?_)
    have L33 : ∀ (n : Nat) (sq : Int) (i : Int) (H : Heap) (locs : List Loc) (ls : Array Slot), (0 ≤ i ∧ i ≤ 9) → (sq = (u - 1) * 9 + i) → (0 < i → PW 10 (i - 1) ≤ F (u - 1)) → (9 - i).toNat < n → va_P (dC, dI) vwCl (wWh dA a g F u []) H → va_D A (wWh dA a g F u []) → va_S A s.heap H locs → lv_has ls 4 [(3, .int (iI i)), (2, .int (iI sq)), (1, .int (iI (F (u - 1)))), (0, .ref a)] → W p l e rmWh_size s m [.ref a].toArray below meth c H locs 0 0 (MQ below (qWh_size dC dI dA dS a g F u N A) [.ref a].toArray s 0 0 A) (F0 m 33 ls []) := by
      intro n
      induction n with
      | zero => intro sq i H locs ls hi0 hi1 hi2 hn; omega
      | succ n ih =>
        intro sq i H locs ls hi0 hi1 hi2 hn hP hD hS hl
        have ih33 := ih
        refine lv_iload_n hx hb dWh_size_33 rfl (lv_at hl 0 rfl) ?_
        refine lv_bipush (v := iI 9) hx hb dWh_size_34 (by decide) ?_
        refine iv_icmp_ge (tgt := 57) hx hb dWh_size_36 (by decide) ⟨by omega, by omega⟩ ⟨by decide, by decide⟩ (fun hc36 => ?_) (fun hc36 => ?_)
        · refine lv_iload_n hx hb dWh_size_57 rfl (lv_at hl 1 rfl) ?_
          exact rt_i hx hb hr hlocks hK hS dWh_size_58 () hP hD (show DL N sq from by rw [hi1]; first | exact size_e hW (by omega) hi0.1 hi2 (by omega) | exact size_e hW (by omega) hi0.1 hi2 (by rw [show i = 9 by omega]; rw [show PW 10 9 = 1000000000 from rfl]; omega))
        · refine lv_iload_n hx hb dWh_size_39 rfl (lv_at hl 2 rfl) ?_
          refine va_gets hx hb hX.2.2.1 hS hown (hts _ wt3_34) (fun _ h9 => h9) dWh_size_40 ?_
          refine lv_iload_n hx hb dWh_size_43 rfl (lv_at hl 0 rfl) ?_
          have hp8 := p10_8 (i := i) (by omega) (by omega)
          refine va_ti (v := .int (iI (PW 10 i))) hx hb hX.2.2.2.1 hS (iI_vp (by omega) (by omega) (by decide)) (tens_at (by omega) (by omega)) dWh_size_44 ?_
          refine iv_icmp_lt (tgt := 57) hx hb dWh_size_45 (by decide) ⟨by omega, by omega⟩ ⟨by omega, by omega⟩ (fun hc45 => ?_) (fun hc45 => ?_)
          · refine lv_iload_n hx hb dWh_size_57 rfl (lv_at hl 1 rfl) ?_
            exact rt_i hx hb hr hlocks hK hS dWh_size_58 () hP hD (show DL N sq from by rw [hi1]; first | exact size_e hW (by omega) hi0.1 hi2 (by omega) | exact size_e hW (by omega) hi0.1 hi2 (by rw [show i = 9 by omega]; rw [show PW 10 9 = 1000000000 from rfl]; omega))
          · refine lv_iinc (k := 1) (lv' := [(2, .int (iI (sq + 1))), (3, .int (iI i)), (1, .int (iI (F (u - 1)))), (0, .ref a)]) (v := iI (sq + 1)) hx hb dWh_size_48 hl rfl (iI_add _ _).symm (by decide) rfl (fun ls hl => ?_)
            refine lv_iinc (k := 1) (lv' := [(3, .int (iI (i + 1))), (2, .int (iI (sq + 1))), (1, .int (iI (F (u - 1)))), (0, .ref a)]) (v := iI (i + 1)) hx hb dWh_size_51 hl rfl (iI_add _ _).symm (by decide) rfl (fun ls hl => ?_)
            refine lv_goto (tgt := 33) hx hb dWh_size_54 (by decide) ?_
            exact ih33 (sq + 1) (i + 1) H locs ls (by omega) (by omega) (by intro q; rw [show i + 1 - 1 = i by omega]; omega) (by omega) hP hD hS (lv_sub hl [0, 1, 2, 3] rfl)
    exact L33 _ ((u - 1) * 9) 0 H locs ls (by omega) (by omega) (by intro q; omega) (Nat.lt_succ_self _) hP hD hS (lv_sub hl [0, 1, 2, 3] rfl)
  · refine lv_iconst (v := iI 0) hx hb dWh_size_7 rfl ?_
    exact rt_i hx hb hr hlocks hK hS dWh_size_8 () hP hD (show DL N 0 from by exact DL_0 (by omega))

theorem dWh_digit_0 : decode prog_7_method_5_code 0 = .ok (.iload_n 1, 1) := by decide +kernel
theorem dWh_digit_1 : decode prog_7_method_5_code 1 = .ok (.bipush 9, 2) := by decide +kernel
theorem dWh_digit_3 : decode prog_7_method_5_code 3 = .ok (.idiv, 1) := by decide +kernel
theorem dWh_digit_4 : decode prog_7_method_5_code 4 = .ok (.istore_n 2, 1) := by decide +kernel
theorem dWh_digit_5 : decode prog_7_method_5_code 5 = .ok (.iload_n 2, 1) := by decide +kernel
theorem dWh_digit_6 : decode prog_7_method_5_code 6 = .ok (.aload_n 0, 1) := by decide +kernel
theorem dWh_digit_7 : decode prog_7_method_5_code 7 = .ok (.getfield 13, 3) := by decide +kernel
theorem dWh_digit_10 : decode prog_7_method_5_code 10 = .ok (.if_icmp .ge 24, 3) := by decide +kernel
theorem dWh_digit_13 : decode prog_7_method_5_code 13 = .ok (.aload_n 0, 1) := by decide +kernel
theorem dWh_digit_14 : decode prog_7_method_5_code 14 = .ok (.getfield 9, 3) := by decide +kernel
theorem dWh_digit_17 : decode prog_7_method_5_code 17 = .ok (.iload_n 2, 1) := by decide +kernel
theorem dWh_digit_18 : decode prog_7_method_5_code 18 = .ok (.iaload, 1) := by decide +kernel
theorem dWh_digit_19 : decode prog_7_method_5_code 19 = .ok (.getstatic 17, 3) := by decide +kernel
theorem dWh_digit_22 : decode prog_7_method_5_code 22 = .ok (.iload_n 1, 1) := by decide +kernel
theorem dWh_digit_23 : decode prog_7_method_5_code 23 = .ok (.bipush 9, 2) := by decide +kernel
theorem dWh_digit_25 : decode prog_7_method_5_code 25 = .ok (.irem, 1) := by decide +kernel
theorem dWh_digit_26 : decode prog_7_method_5_code 26 = .ok (.iaload, 1) := by decide +kernel
theorem dWh_digit_27 : decode prog_7_method_5_code 27 = .ok (.idiv, 1) := by decide +kernel
theorem dWh_digit_28 : decode prog_7_method_5_code 28 = .ok (.bipush 10, 2) := by decide +kernel
theorem dWh_digit_30 : decode prog_7_method_5_code 30 = .ok (.irem, 1) := by decide +kernel
theorem dWh_digit_31 : decode prog_7_method_5_code 31 = .ok (.goto 4, 3) := by decide +kernel
theorem dWh_digit_34 : decode prog_7_method_5_code 34 = .ok (.iconst 0, 1) := by decide +kernel
theorem dWh_digit_35 : decode prog_7_method_5_code 35 = .ok (.ireturn, 1) := by decide +kernel
abbrev qWh_digit (dC : Nat → ClassId) (dI : Nat → Nat → Nat) (dA : Nat → ClassId) (dS : Nat → Nat) (a : Nat) (g : Nat) (F : Int → Int) (u : Int) (N : Int) (pl : Int) (A : Nat → Prop) : Array Value → State → Outcome → State → Prop := QI (dC, dI) vwCl (tyA dA) (fun (r : Int) (v_ : Unit) => r = N / PW 10 pl % 10) (fun (v_ : Unit) => wWh dA a g F u []) A
abbrev rmWh_digit : Room := { frames := 0, cells := 0, slots := 0, locals := 0 }
set_option maxRecDepth 100000 in
set_option maxHeartbeats 1000000 in
theorem cWh_digit (l : Launch) (dC : Nat → ClassId) (dI : Nat → Nat → Nat) (dA : Nat → ClassId) (dS : Nat → Nat) (a : Nat) (g : Nat) (F : Int → Int) (u : Int) (N : Int) (pl : Int) (hW : WR F u N) (hp : 0 ≤ pl ∧ pl ≤ 1000000) (sz : Nat) : Met l yWh_digit wsWh_digit rmWh_digit (PC (dC, dI) vwCl (tyA dA) (XC dS) [.ref a, .int (iI pl)] (wWh dA a g F u []) sz) (qWh_digit dC dI dA dS a g F u N pl (va_A (wWh dA a g F u []) sz)) 0 0 (va_A (wWh dA a g F u []) sz) := by
  refine met_of (cc := prog_7_method_5_code) (maxL := 3) (ret := (some .int)) (Qc := qWh_digit dC dI dA dS a g F u N pl) (XC_ok dS) (by decide) rfl (Nat.le_of_ble_eq_true rfl) ?_
  intro p e s m below meth c ls A hx hb hr hml hown hts hlocks hnm hK hP hD hA hX hS hl
  have hl : lv_has ls 3 [(0, .ref a), (1, .int (iI pl))] := hl
  have hown : s.vm.findClass "MacroReckoner$Whole" = some m.cls := hown
  obtain ⟨H, hH⟩ : ∃ H : Heap, H = s.heap := ⟨_, rfl⟩
  obtain ⟨locs, hlo⟩ : ∃ L : List Loc, L = [] := ⟨_, rfl⟩
  have hP : va_P (dC, dI) vwCl (wWh dA a g F u []) H := hH ▸ hP
  have hS : va_S A s.heap H locs := by rw [hH, hlo]; exact hS
  suffices hgo : W p l e rmWh_digit s m [.ref a, .int (iI pl)].toArray below meth c H locs 0 0 (MQ below (qWh_digit dC dI dA dS a g F u N pl A) [.ref a, .int (iI pl)].toArray s 0 0 A) (F0 m 0 ls []) by rw [hH, hlo] at hgo; exact hgo
  clear hH hlo
  have hu := hW.1
  refine lv_iload_n hx hb dWh_digit_0 rfl (lv_at hl 1 rfl) ?_
  refine lv_bipush (v := iI 9) hx hb dWh_digit_1 (by decide) ?_
  refine iv_idiv hx hb dWh_digit_3 (by omega) ⟨by omega, by omega⟩ (by omega) ⟨by decide, by decide⟩ ?_
  refine lv_istore_n (lv' := [(2, .int (iI (pl / 9))), (0, .ref a), (1, .int (iI pl))]) hx hb dWh_digit_4 rfl hl (by decide) rfl (fun ls hl => ?_)
  refine lv_iload_n hx hb dWh_digit_5 rfl (lv_at hl 0 rfl) ?_
  refine lv_aload_n hx hb dWh_digit_6 rfl (lv_at hl 1 rfl) ?_
  refine va_get (D := (dC, dI)) (ci := 5) (v := .int (iI u)) (C := "MacroReckoner$Whole") (T := TWh) (N := 2) hx hb hts inWh hown hK hP 0 rfl rfl 1 (by decide) (hts _ wt1_93) (fun _ h9 => h9) rfl dWh_digit_7 ?_
  refine iv_icmp_ge (tgt := 34) hx hb dWh_digit_10 (by decide) ⟨by omega, by omega⟩ ⟨by omega, by omega⟩ (fun hc10 => ?_) (fun hc10 => ?_)
  · refine lv_iconst (v := iI 0) hx hb dWh_digit_34 rfl ?_
    exact rt_i hx hb hr hlocks hK hS dWh_digit_35 () hP hD (show 0 = N / PW 10 pl % 10 from by first | exact digit_in hW hp.1 hc10 | exact digit_out hW hp.1 hc10)
  · refine lv_aload_n hx hb dWh_digit_13 rfl (lv_at hl 1 rfl) ?_
    refine va_get (D := (dC, dI)) (ci := 5) (v := .ref g) (C := "MacroReckoner$Whole") (T := TWh) (N := 2) hx hb hts inWh hown hK hP 0 rfl rfl 0 (by decide) (hts _ wt1_92) (fun _ h9 => h9) rfl dWh_digit_14 ?_
    refine lv_iload_n hx hb dWh_digit_17 rfl (lv_at hl 0 rfl) ?_
    have hd := hW.2.1 (pl / 9) (by omega) (by omega)
    refine iv_iald hx hb hK hP 1 0 rfl rfl (by decide) dWh_digit_18 (by omega) (by omega) ?_
    refine va_gets hx hb hX.2.2.1 hS hown (hts _ wt3_34) (fun _ h9 => h9) dWh_digit_19 ?_
    refine lv_iload_n hx hb dWh_digit_22 rfl (lv_at hl 2 rfl) ?_
    refine lv_bipush (v := iI 9) hx hb dWh_digit_23 (by decide) ?_
    refine iv_irem hx hb dWh_digit_25 (by omega) ⟨by omega, by omega⟩ (by omega) ⟨by decide, by decide⟩ ?_
    have hp8 := p10_8 (i := pl % 9) (by omega) (by omega)
    refine va_ti (v := .int (iI (PW 10 (pl % 9)))) hx hb hX.2.2.2.1 hS (iI_vp (by omega) (by omega) (by decide)) (tens_at (by omega) (by omega)) dWh_digit_26 ?_
    refine iv_idiv hx hb dWh_digit_27 (by omega) ⟨by omega, by omega⟩ (by omega) ⟨by omega, by omega⟩ ?_
    have hq1 := Int.ediv_nonneg (show 0 ≤ F (pl / 9) by omega) (show 0 ≤ PW 10 (pl % 9) by omega)
    have hq2 := Int.ediv_le_self (a := F (pl / 9)) (PW 10 (pl % 9)) (by omega)
    refine lv_bipush (v := iI 10) hx hb dWh_digit_28 (by decide) ?_
    refine iv_irem hx hb dWh_digit_30 (by omega) ⟨by omega, by omega⟩ (by omega) ⟨by decide, by decide⟩ ?_
    refine lv_goto (tgt := 35) hx hb dWh_digit_31 (by decide) ?_
    exact rt_i hx hb hr hlocks hK hS dWh_digit_35 () hP hD (show (((F (pl / 9)) / (PW 10 (pl % 9))) % 10) = N / PW 10 pl % 10 from by first | exact digit_in hW hp.1 hc10 | exact digit_out hW hp.1 hc10)

theorem dWh_against_0 : decode prog_7_method_6_code 0 = .ok (.aload_n 0, 1) := by decide +kernel
theorem dWh_against_1 : decode prog_7_method_6_code 1 = .ok (.getfield 13, 3) := by decide +kernel
theorem dWh_against_4 : decode prog_7_method_6_code 4 = .ok (.aload_n 1, 1) := by decide +kernel
theorem dWh_against_5 : decode prog_7_method_6_code 5 = .ok (.getfield 13, 3) := by decide +kernel
theorem dWh_against_8 : decode prog_7_method_6_code 8 = .ok (.if_icmp .eq 20, 3) := by decide +kernel
theorem dWh_against_11 : decode prog_7_method_6_code 11 = .ok (.aload_n 0, 1) := by decide +kernel
theorem dWh_against_12 : decode prog_7_method_6_code 12 = .ok (.getfield 13, 3) := by decide +kernel
theorem dWh_against_15 : decode prog_7_method_6_code 15 = .ok (.aload_n 1, 1) := by decide +kernel
theorem dWh_against_16 : decode prog_7_method_6_code 16 = .ok (.getfield 13, 3) := by decide +kernel
theorem dWh_against_19 : decode prog_7_method_6_code 19 = .ok (.if_icmp .ge 7, 3) := by decide +kernel
theorem dWh_against_22 : decode prog_7_method_6_code 22 = .ok (.iconst (-1), 1) := by decide +kernel
theorem dWh_against_23 : decode prog_7_method_6_code 23 = .ok (.goto 4, 3) := by decide +kernel
theorem dWh_against_26 : decode prog_7_method_6_code 26 = .ok (.iconst 1, 1) := by decide +kernel
theorem dWh_against_27 : decode prog_7_method_6_code 27 = .ok (.ireturn, 1) := by decide +kernel
theorem dWh_against_28 : decode prog_7_method_6_code 28 = .ok (.aload_n 0, 1) := by decide +kernel
theorem dWh_against_29 : decode prog_7_method_6_code 29 = .ok (.getfield 13, 3) := by decide +kernel
theorem dWh_against_32 : decode prog_7_method_6_code 32 = .ok (.iconst 1, 1) := by decide +kernel
theorem dWh_against_33 : decode prog_7_method_6_code 33 = .ok (.isub, 1) := by decide +kernel
theorem dWh_against_34 : decode prog_7_method_6_code 34 = .ok (.istore_n 2, 1) := by decide +kernel
theorem dWh_against_35 : decode prog_7_method_6_code 35 = .ok (.iload_n 2, 1) := by decide +kernel
theorem dWh_against_36 : decode prog_7_method_6_code 36 = .ok (.ifCond .lt 45, 3) := by decide +kernel
theorem dWh_against_39 : decode prog_7_method_6_code 39 = .ok (.aload_n 0, 1) := by decide +kernel
theorem dWh_against_40 : decode prog_7_method_6_code 40 = .ok (.getfield 9, 3) := by decide +kernel
theorem dWh_against_43 : decode prog_7_method_6_code 43 = .ok (.iload_n 2, 1) := by decide +kernel
theorem dWh_against_44 : decode prog_7_method_6_code 44 = .ok (.iaload, 1) := by decide +kernel
theorem dWh_against_45 : decode prog_7_method_6_code 45 = .ok (.aload_n 1, 1) := by decide +kernel
theorem dWh_against_46 : decode prog_7_method_6_code 46 = .ok (.getfield 9, 3) := by decide +kernel
theorem dWh_against_49 : decode prog_7_method_6_code 49 = .ok (.iload_n 2, 1) := by decide +kernel
theorem dWh_against_50 : decode prog_7_method_6_code 50 = .ok (.iaload, 1) := by decide +kernel
theorem dWh_against_51 : decode prog_7_method_6_code 51 = .ok (.if_icmp .eq 24, 3) := by decide +kernel
theorem dWh_against_54 : decode prog_7_method_6_code 54 = .ok (.aload_n 0, 1) := by decide +kernel
theorem dWh_against_55 : decode prog_7_method_6_code 55 = .ok (.getfield 9, 3) := by decide +kernel
theorem dWh_against_58 : decode prog_7_method_6_code 58 = .ok (.iload_n 2, 1) := by decide +kernel
theorem dWh_against_59 : decode prog_7_method_6_code 59 = .ok (.iaload, 1) := by decide +kernel
theorem dWh_against_60 : decode prog_7_method_6_code 60 = .ok (.aload_n 1, 1) := by decide +kernel
theorem dWh_against_61 : decode prog_7_method_6_code 61 = .ok (.getfield 9, 3) := by decide +kernel
theorem dWh_against_64 : decode prog_7_method_6_code 64 = .ok (.iload_n 2, 1) := by decide +kernel
theorem dWh_against_65 : decode prog_7_method_6_code 65 = .ok (.iaload, 1) := by decide +kernel
theorem dWh_against_66 : decode prog_7_method_6_code 66 = .ok (.if_icmp .ge 7, 3) := by decide +kernel
theorem dWh_against_69 : decode prog_7_method_6_code 69 = .ok (.iconst (-1), 1) := by decide +kernel
theorem dWh_against_70 : decode prog_7_method_6_code 70 = .ok (.goto 4, 3) := by decide +kernel
theorem dWh_against_73 : decode prog_7_method_6_code 73 = .ok (.iconst 1, 1) := by decide +kernel
theorem dWh_against_74 : decode prog_7_method_6_code 74 = .ok (.ireturn, 1) := by decide +kernel
theorem dWh_against_75 : decode prog_7_method_6_code 75 = .ok (.iinc 2 (-1), 3) := by decide +kernel
theorem dWh_against_78 : decode prog_7_method_6_code 78 = .ok (.goto (-43), 3) := by decide +kernel
theorem dWh_against_81 : decode prog_7_method_6_code 81 = .ok (.iconst 0, 1) := by decide +kernel
theorem dWh_against_82 : decode prog_7_method_6_code 82 = .ok (.ireturn, 1) := by decide +kernel
abbrev qWh_against (dC : Nat → ClassId) (dI : Nat → Nat → Nat) (dA : Nat → ClassId) (a : Nat) (g : Nat) (F : Int → Int) (u : Int) (N : Int) (b : Nat) (h : Nat) (G : Int → Int) (v : Int) (M : Int) (A : Nat → Prop) : Array Value → State → Outcome → State → Prop := QI (dC, dI) vwCl (tyA dA) (fun (r : Int) (v_ : Unit) => (N < M ∧ r = -1) ∨ (N = M ∧ r = 0) ∨ (M < N ∧ r = 1)) (fun (v_ : Unit) => wWh dA a g F u (wWh dA b h G v [])) A
abbrev rmWh_against : Room := { frames := 0, cells := 0, slots := 0, locals := 0 }
set_option maxRecDepth 100000 in
set_option maxHeartbeats 1000000 in
theorem cWh_against (l : Launch) (dC : Nat → ClassId) (dI : Nat → Nat → Nat) (dA : Nat → ClassId) (a : Nat) (g : Nat) (F : Int → Int) (u : Int) (N : Int) (b : Nat) (h : Nat) (G : Int → Int) (v : Int) (M : Int) (hW : WR F u N) (hV : WR G v M) (sz : Nat) : Met l yWh_against wsWh_against rmWh_against (PC (dC, dI) vwCl (tyA dA) XN [.ref a, .ref b] (wWh dA a g F u (wWh dA b h G v [])) sz) (qWh_against dC dI dA a g F u N b h G v M (va_A (wWh dA a g F u (wWh dA b h G v [])) sz)) 0 0 (va_A (wWh dA a g F u (wWh dA b h G v [])) sz) := by
  refine met_of (cc := prog_7_method_6_code) (maxL := 3) (ret := (some .int)) (Qc := qWh_against dC dI dA a g F u N b h G v M) XN_ok (by decide) rfl (Nat.le_of_ble_eq_true rfl) ?_
  intro p e s m below meth c ls A hx hb hr hml hown hts hlocks hnm hK hP hD hA hX hS hl
  have hl : lv_has ls 3 [(0, .ref a), (1, .ref b)] := hl
  have hown : s.vm.findClass "MacroReckoner$Whole" = some m.cls := hown
  obtain ⟨H, hH⟩ : ∃ H : Heap, H = s.heap := ⟨_, rfl⟩
  obtain ⟨locs, hlo⟩ : ∃ L : List Loc, L = [] := ⟨_, rfl⟩
  have hP : va_P (dC, dI) vwCl (wWh dA a g F u (wWh dA b h G v [])) H := hH ▸ hP
  have hS : va_S A s.heap H locs := by rw [hH, hlo]; exact hS
  suffices hgo : W p l e rmWh_against s m [.ref a, .ref b].toArray below meth c H locs 0 0 (MQ below (qWh_against dC dI dA a g F u N b h G v M A) [.ref a, .ref b].toArray s 0 0 A) (F0 m 0 ls []) by rw [hH, hlo] at hgo; exact hgo
  clear hH hlo
  have hu := hW.1
  have hv := hV.1
  refine lv_aload_n hx hb dWh_against_0 rfl (lv_at hl 0 rfl) ?_
  refine va_get (D := (dC, dI)) (ci := 5) (v := .int (iI u)) (C := "MacroReckoner$Whole") (T := TWh) (N := 2) hx hb hts inWh hown hK hP 0 rfl rfl 1 (by decide) (hts _ wt1_93) (fun _ h9 => h9) rfl dWh_against_1 ?_
  refine lv_aload_n hx hb dWh_against_4 rfl (lv_at hl 1 rfl) ?_
  refine va_get (D := (dC, dI)) (ci := 5) (v := .int (iI v)) (C := "MacroReckoner$Whole") (T := TWh) (N := 2) hx hb hts inWh hown hK hP 2 rfl rfl 1 (by decide) (hts _ wt1_93) (fun _ h9 => h9) rfl dWh_against_5 ?_
  refine iv_icmp_eq (tgt := 28) hx hb dWh_against_8 (by decide) ⟨by omega, by omega⟩ ⟨by omega, by omega⟩ (fun hc8 => ?_) (fun hc8 => ?_)
  · have hV : WR G u M := by rw [hc8]; exact hV
    refine lv_aload_n hx hb dWh_against_28 rfl (lv_at hl 0 rfl) ?_
    refine va_get (D := (dC, dI)) (ci := 5) (v := .int (iI u)) (C := "MacroReckoner$Whole") (T := TWh) (N := 2) hx hb hts inWh hown hK hP 0 rfl rfl 1 (by decide) (hts _ wt1_93) (fun _ h9 => h9) rfl dWh_against_29 ?_
    refine lv_iconst (v := iI 1) hx hb dWh_against_32 rfl ?_
    refine iv_isub hx hb dWh_against_33 ?_
    refine lv_istore_n (lv' := [(2, .int (iI (u - 1))), (0, .ref a), (1, .ref b)]) hx hb dWh_against_34 rfl hl (by decide) rfl (fun ls hl => ?_)
    have L35 : ∀ (n : Nat) (i : Int) (H : Heap) (locs : List Loc) (ls : Array Slot), (-1 ≤ i ∧ i < u) → (∀ j, i < j → j < u → F j = G j) → (i + 1).toNat < n → va_P (dC, dI) vwCl (wWh dA a g F u (wWh dA b h G v [])) H → va_D A (wWh dA a g F u (wWh dA b h G v [])) → va_S A s.heap H locs → lv_has ls 3 [(2, .int (iI i)), (0, .ref a), (1, .ref b)] → W p l e rmWh_against s m [.ref a, .ref b].toArray below meth c H locs 0 0 (MQ below (qWh_against dC dI dA a g F u N b h G v M A) [.ref a, .ref b].toArray s 0 0 A) (F0 m 35 ls []) := by
      intro n
      induction n with
      | zero => intro i H locs ls hi hj hn; omega
      | succ n ih =>
        intro i H locs ls hi hj hn hP hD hS hl
        have ih35 := ih
        refine lv_iload_n hx hb dWh_against_35 rfl (lv_at hl 0 rfl) ?_
        refine iv_if_lt (tgt := 81) hx hb dWh_against_36 (by decide) ⟨by omega, by omega⟩ (fun hc36 => ?_) (fun hc36 => ?_)
        · refine lv_iconst (v := iI 0) hx hb dWh_against_81 rfl ?_
          exact rt_i hx hb hr hlocks hK hS dWh_against_82 () hP hD (show (N < M ∧ 0 = -1) ∨ (N = M ∧ 0 = 0) ∨ (M < N ∧ 0 = 1) from by exact Or.inr (Or.inl ⟨WR_cmp_e hW hV (fun j x y => hj j (by omega) y), rfl⟩))
        · have hd := hW.2.1 i (by omega) (by omega)
          have he := hV.2.1 i (by omega) (by omega)
          refine lv_aload_n hx hb dWh_against_39 rfl (lv_at hl 1 rfl) ?_
          refine va_get (D := (dC, dI)) (ci := 5) (v := .ref g) (C := "MacroReckoner$Whole") (T := TWh) (N := 2) hx hb hts inWh hown hK hP 0 rfl rfl 0 (by decide) (hts _ wt1_92) (fun _ h9 => h9) rfl dWh_against_40 ?_
          refine lv_iload_n hx hb dWh_against_43 rfl (lv_at hl 0 rfl) ?_
          refine iv_iald hx hb hK hP 1 0 rfl rfl (by decide) dWh_against_44 (by omega) (by omega) ?_
          refine lv_aload_n hx hb dWh_against_45 rfl (lv_at hl 2 rfl) ?_
          refine va_get (D := (dC, dI)) (ci := 5) (v := .ref h) (C := "MacroReckoner$Whole") (T := TWh) (N := 2) hx hb hts inWh hown hK hP 2 rfl rfl 0 (by decide) (hts _ wt1_92) (fun _ h9 => h9) rfl dWh_against_46 ?_
          refine lv_iload_n hx hb dWh_against_49 rfl (lv_at hl 0 rfl) ?_
          refine iv_iald hx hb hK hP 3 0 rfl rfl (by decide) dWh_against_50 (by omega) (by omega) ?_
          refine iv_icmp_eq (tgt := 75) hx hb dWh_against_51 (by decide) ⟨by omega, by omega⟩ ⟨by omega, by omega⟩ (fun hc51 => ?_) (fun hc51 => ?_)
          · refine lv_iinc (k := 0) (lv' := [(2, .int (iI (i - 1))), (0, .ref a), (1, .ref b)]) (v := iI (i - 1)) hx hb dWh_against_75 hl rfl (by rw [show (Int32.ofInt (-1)) = iI (-1) from rfl, ← iI_add]; congr 1) (by decide) rfl (fun ls hl => ?_)
            refine lv_goto (tgt := 35) hx hb dWh_against_78 (by decide) ?_
            exact ih35 (i - 1) H locs ls (by omega) (by intro j a b; rcases (show i < j ∨ j = i by omega) with q | q; exact hj j q b; rw [q]; exact hc51) (by omega) hP hD hS (lv_sub hl [0, 1, 2] rfl)
          · refine lv_aload_n hx hb dWh_against_54 rfl (lv_at hl 1 rfl) ?_
            refine va_get (D := (dC, dI)) (ci := 5) (v := .ref g) (C := "MacroReckoner$Whole") (T := TWh) (N := 2) hx hb hts inWh hown hK hP 0 rfl rfl 0 (by decide) (hts _ wt1_92) (fun _ h9 => h9) rfl dWh_against_55 ?_
            refine lv_iload_n hx hb dWh_against_58 rfl (lv_at hl 0 rfl) ?_
            refine iv_iald hx hb hK hP 1 0 rfl rfl (by decide) dWh_against_59 (by omega) (by omega) ?_
            refine lv_aload_n hx hb dWh_against_60 rfl (lv_at hl 2 rfl) ?_
            refine va_get (D := (dC, dI)) (ci := 5) (v := .ref h) (C := "MacroReckoner$Whole") (T := TWh) (N := 2) hx hb hts inWh hown hK hP 2 rfl rfl 0 (by decide) (hts _ wt1_92) (fun _ h9 => h9) rfl dWh_against_61 ?_
            refine lv_iload_n hx hb dWh_against_64 rfl (lv_at hl 0 rfl) ?_
            refine iv_iald hx hb hK hP 3 0 rfl rfl (by decide) dWh_against_65 (by omega) (by omega) ?_
            refine iv_icmp_ge (tgt := 73) hx hb dWh_against_66 (by decide) ⟨by omega, by omega⟩ ⟨by omega, by omega⟩ (fun hc66 => ?_) (fun hc66 => ?_)
            · refine lv_iconst (v := iI 1) hx hb dWh_against_73 rfl ?_
              exact rt_i hx hb hr hlocks hK hS dWh_against_74 () hP hD (show (N < M ∧ 1 = -1) ∨ (N = M ∧ 1 = 0) ∨ (M < N ∧ 1 = 1) from by first | exact Or.inl ⟨WR_cmp_d hW hV (by omega) hi.2 hj (by omega), rfl⟩ | exact Or.inr (Or.inr ⟨WR_cmp_d hV hW (by omega) hi.2 (fun j x y => (hj j x y).symm) (by omega), rfl⟩))
            · refine lv_iconst (v := iI (-1)) hx hb dWh_against_69 rfl ?_
              refine lv_goto (tgt := 74) hx hb dWh_against_70 (by decide) ?_
              exact rt_i hx hb hr hlocks hK hS dWh_against_74 () hP hD (show (N < M ∧ (-1) = -1) ∨ (N = M ∧ (-1) = 0) ∨ (M < N ∧ (-1) = 1) from by first | exact Or.inl ⟨WR_cmp_d hW hV (by omega) hi.2 hj (by omega), rfl⟩ | exact Or.inr (Or.inr ⟨WR_cmp_d hV hW (by omega) hi.2 (fun j x y => (hj j x y).symm) (by omega), rfl⟩))
    exact L35 _ (u - 1) H locs ls (by omega) (by intro j a b; omega) (Nat.lt_succ_self _) hP hD hS (lv_sub hl [0, 1, 2] rfl)
  · refine lv_aload_n hx hb dWh_against_11 rfl (lv_at hl 0 rfl) ?_
    refine va_get (D := (dC, dI)) (ci := 5) (v := .int (iI u)) (C := "MacroReckoner$Whole") (T := TWh) (N := 2) hx hb hts inWh hown hK hP 0 rfl rfl 1 (by decide) (hts _ wt1_93) (fun _ h9 => h9) rfl dWh_against_12 ?_
    refine lv_aload_n hx hb dWh_against_15 rfl (lv_at hl 1 rfl) ?_
    refine va_get (D := (dC, dI)) (ci := 5) (v := .int (iI v)) (C := "MacroReckoner$Whole") (T := TWh) (N := 2) hx hb hts inWh hown hK hP 2 rfl rfl 1 (by decide) (hts _ wt1_93) (fun _ h9 => h9) rfl dWh_against_16 ?_
    refine iv_icmp_ge (tgt := 26) hx hb dWh_against_19 (by decide) ⟨by omega, by omega⟩ ⟨by omega, by omega⟩ (fun hc19 => ?_) (fun hc19 => ?_)
    · refine lv_iconst (v := iI 1) hx hb dWh_against_26 rfl ?_
      exact rt_i hx hb hr hlocks hK hS dWh_against_27 () hP hD (show (N < M ∧ 1 = -1) ∨ (N = M ∧ 1 = 0) ∨ (M < N ∧ 1 = 1) from by first | exact Or.inl ⟨WR_cmp_u hW hV (by omega), rfl⟩ | exact Or.inr (Or.inr ⟨WR_cmp_u hV hW (by omega), rfl⟩))
    · refine lv_iconst (v := iI (-1)) hx hb dWh_against_22 rfl ?_
      refine lv_goto (tgt := 27) hx hb dWh_against_23 (by decide) ?_
      exact rt_i hx hb hr hlocks hK hS dWh_against_27 () hP hD (show (N < M ∧ (-1) = -1) ∨ (N = M ∧ (-1) = 0) ∨ (M < N ∧ (-1) = 1) from by first | exact Or.inl ⟨WR_cmp_u hW hV (by omega), rfl⟩ | exact Or.inr (Or.inr ⟨WR_cmp_u hV hW (by omega), rfl⟩))

theorem dWh_become_0 : decode prog_7_method_7_code 0 = .ok (.aload_n 1, 1) := by decide +kernel
theorem dWh_become_1 : decode prog_7_method_7_code 1 = .ok (.getfield 9, 3) := by decide +kernel
theorem dWh_become_4 : decode prog_7_method_7_code 4 = .ok (.iconst 0, 1) := by decide +kernel
theorem dWh_become_5 : decode prog_7_method_7_code 5 = .ok (.aload_n 0, 1) := by decide +kernel
theorem dWh_become_6 : decode prog_7_method_7_code 6 = .ok (.getfield 9, 3) := by decide +kernel
theorem dWh_become_9 : decode prog_7_method_7_code 9 = .ok (.iconst 0, 1) := by decide +kernel
theorem dWh_become_10 : decode prog_7_method_7_code 10 = .ok (.aload_n 1, 1) := by decide +kernel
theorem dWh_become_11 : decode prog_7_method_7_code 11 = .ok (.getfield 13, 3) := by decide +kernel
theorem dWh_become_14 : decode prog_7_method_7_code 14 = .ok (.invokestatic 20, 3) := by decide +kernel
theorem dWh_become_17 : decode prog_7_method_7_code 17 = .ok (.aload_n 0, 1) := by decide +kernel
theorem dWh_become_18 : decode prog_7_method_7_code 18 = .ok (.aload_n 1, 1) := by decide +kernel
theorem dWh_become_19 : decode prog_7_method_7_code 19 = .ok (.getfield 13, 3) := by decide +kernel
theorem dWh_become_22 : decode prog_7_method_7_code 22 = .ok (.putfield 13, 3) := by decide +kernel
theorem dWh_become_25 : decode prog_7_method_7_code 25 = .ok (.return_, 1) := by decide +kernel
abbrev qWh_become (dC : Nat → ClassId) (dI : Nat → Nat → Nat) (dA : Nat → ClassId) (a : Nat) (g : Nat) (F : Int → Int) (u : Int) (b : Nat) (h : Nat) (G : Int → Int) (v : Int) (M : Int) (A : Nat → Prop) : Array Value → State → Outcome → State → Prop := QV (dC, dI) vwCl (tyA dA) (fun (v_ : (Int → Int)) => WR v_ v M) (fun (v_ : (Int → Int)) => wWh dA a g v_ v (wWh dA b h G v [])) A
abbrev rmWh_become : Room := { frames := 1, cells := 0, slots := 0, locals := 60 }
set_option maxRecDepth 100000 in
set_option maxHeartbeats 1000000 in
theorem cWh_become (l : Launch) (dC : Nat → ClassId) (dI : Nat → Nat → Nat) (dA : Nat → ClassId) (a : Nat) (g : Nat) (F : Int → Int) (u : Int) (b : Nat) (h : Nat) (G : Int → Int) (v : Int) (M : Int) (hV : WR G v M) (sz : Nat) : Met l yWh_become wsWh_become rmWh_become (PC (dC, dI) vwCl (tyA dA) XN [.ref a, .ref b] (wWh dA a g F u (wWh dA b h G v [])) sz) (qWh_become dC dI dA a g F u b h G v M (va_A (wWh dA a g F u (wWh dA b h G v [])) sz)) 0 0 (va_A (wWh dA a g F u (wWh dA b h G v [])) sz) := by
  refine met_of (cc := prog_7_method_7_code) (maxL := 2) (ret := none) (Qc := qWh_become dC dI dA a g F u b h G v M) XN_ok (by decide) rfl (Nat.le_of_ble_eq_true rfl) ?_
  intro p e s m below meth c ls A hx hb hr hml hown hts hlocks hnm hK hP hD hA hX hS hl
  have hl : lv_has ls 2 [(0, .ref a), (1, .ref b)] := hl
  have hown : s.vm.findClass "MacroReckoner$Whole" = some m.cls := hown
  obtain ⟨H, hH⟩ : ∃ H : Heap, H = s.heap := ⟨_, rfl⟩
  obtain ⟨locs, hlo⟩ : ∃ L : List Loc, L = [] := ⟨_, rfl⟩
  have hP : va_P (dC, dI) vwCl (wWh dA a g F u (wWh dA b h G v [])) H := hH ▸ hP
  have hS : va_S A s.heap H locs := by rw [hH, hlo]; exact hS
  suffices hgo : W p l e rmWh_become s m [.ref a, .ref b].toArray below meth c H locs 0 0 (MQ below (qWh_become dC dI dA a g F u b h G v M A) [.ref a, .ref b].toArray s 0 0 A) (F0 m 0 ls []) by rw [hH, hlo] at hgo; exact hgo
  clear hH hlo
  have hv := hV.1
  refine lv_aload_n hx hb dWh_become_0 rfl (lv_at hl 1 rfl) ?_
  refine va_get (D := (dC, dI)) (ci := 5) (v := .ref h) (C := "MacroReckoner$Whole") (T := TWh) (N := 2) hx hb hts inWh hown hK hP 2 rfl rfl 0 (by decide) (hts _ wt1_92) (fun _ h9 => h9) rfl dWh_become_1 ?_
  refine lv_iconst (v := iI 0) hx hb dWh_become_4 rfl ?_
  refine lv_aload_n hx hb dWh_become_5 rfl (lv_at hl 0 rfl) ?_
  refine va_get (D := (dC, dI)) (ci := 5) (v := .ref g) (C := "MacroReckoner$Whole") (T := TWh) (N := 2) hx hb hts inWh hown hK hP 0 rfl rfl 0 (by decide) (hts _ wt1_92) (fun _ h9 => h9) rfl dWh_become_6 ?_
  refine lv_iconst (v := iI 0) hx hb dWh_become_9 rfl ?_
  refine lv_aload_n hx hb dWh_become_10 rfl (lv_at hl 1 rfl) ?_
  refine va_get (D := (dC, dI)) (ci := 5) (v := .int (iI v)) (C := "MacroReckoner$Whole") (T := TWh) (N := 2) hx hb hts inWh hown hK hP 2 rfl rfl 1 (by decide) (hts _ wt1_93) (fun _ h9 => h9) rfl dWh_become_11 ?_
  refine iv_copy hx hb (hml.trans hl.1.symm) hown (hts _ wt3_48) (hts _ wt1_217) (hts _ wt1_216) (hts _ wt1_9) hK hP hD hS 3 1 0 0 rfl rfl rfl rfl rfl (by decide) (Nat.le_of_ble_eq_true rfl) (by decide) (by decide) dWh_become_14 (by omega) (by omega) (by omega) (by omega) (by omega) (fun _ _ _ => rfl) (fun H locs hP hD hS => ?_)
  have hP : va_P (dC, dI) vwCl (wWh dA a g (cpI G F 0 0 v) u (wWh dA b h G v [])) H := hP
  have hD : va_D A (wWh dA a g (cpI G F 0 0 v) u (wWh dA b h G v [])) := hD
  refine lv_aload_n hx hb dWh_become_17 rfl (lv_at hl 0 rfl) ?_
  refine lv_aload_n hx hb dWh_become_18 rfl (lv_at hl 1 rfl) ?_
  refine va_get (D := (dC, dI)) (ci := 5) (v := .int (iI v)) (C := "MacroReckoner$Whole") (T := TWh) (N := 2) hx hb hts inWh hown hK hP 2 rfl rfl 1 (by decide) (hts _ wt1_93) (fun _ h9 => h9) rfl dWh_become_19 ?_
  refine va_put (D := (dC, dI)) (ci := 5) (v := .int (iI v)) (ty := .int) (C := "MacroReckoner$Whole") (T := TWh) (N := 2) hx hb hts inWh tyWh tyWh_ok nmWh hown hK hP hD hS 0 rfl rfl 1 (by decide) (hts _ wt1_93) (fun _ h9 => h9) rfl (by decide +kernel) rfl rfl (Nat.le_of_ble_eq_true rfl) dWh_become_22 (fun H locs hP hD hS => ?_)
  have hP : va_P (dC, dI) vwCl (wWh dA a g (cpI G F 0 0 v) v (wWh dA b h G v [])) H := hP
  have hD : va_D A (wWh dA a g (cpI G F 0 0 v) v (wWh dA b h G v [])) := hD
  exact rt_v hx hb hr hlocks hK hS dWh_become_25 (cpI G F 0 0 v) hP hD (show WR (cpI G F 0 0 v) v M from by exact become_e hV)

theorem dWh_becomeSmall_0 : decode prog_7_method_8_code 0 = .ok (.aload_n 0, 1) := by decide +kernel
theorem dWh_becomeSmall_1 : decode prog_7_method_8_code 1 = .ok (.getfield 9, 3) := by decide +kernel
theorem dWh_becomeSmall_4 : decode prog_7_method_8_code 4 = .ok (.iconst 0, 1) := by decide +kernel
theorem dWh_becomeSmall_5 : decode prog_7_method_8_code 5 = .ok (.iload_n 1, 1) := by decide +kernel
theorem dWh_becomeSmall_6 : decode prog_7_method_8_code 6 = .ok (.iastore, 1) := by decide +kernel
theorem dWh_becomeSmall_7 : decode prog_7_method_8_code 7 = .ok (.aload_n 0, 1) := by decide +kernel
theorem dWh_becomeSmall_8 : decode prog_7_method_8_code 8 = .ok (.iload_n 1, 1) := by decide +kernel
theorem dWh_becomeSmall_9 : decode prog_7_method_8_code 9 = .ok (.ifCond .ne 7, 3) := by decide +kernel
theorem dWh_becomeSmall_12 : decode prog_7_method_8_code 12 = .ok (.iconst 0, 1) := by decide +kernel
theorem dWh_becomeSmall_13 : decode prog_7_method_8_code 13 = .ok (.goto 4, 3) := by decide +kernel
theorem dWh_becomeSmall_16 : decode prog_7_method_8_code 16 = .ok (.iconst 1, 1) := by decide +kernel
theorem dWh_becomeSmall_17 : decode prog_7_method_8_code 17 = .ok (.putfield 13, 3) := by decide +kernel
theorem dWh_becomeSmall_20 : decode prog_7_method_8_code 20 = .ok (.return_, 1) := by decide +kernel
abbrev qWh_becomeSmall (dC : Nat → ClassId) (dI : Nat → Nat → Nat) (dA : Nat → ClassId) (a : Nat) (g : Nat) (F : Int → Int) (u : Int) (k : Int) (A : Nat → Prop) : Array Value → State → Outcome → State → Prop := QV (dC, dI) vwCl (tyA dA) (fun (v_ : (Int → Int) × Int) => WR v_.1 v_.2 k) (fun (v_ : (Int → Int) × Int) => wWh dA a g v_.1 v_.2 []) A
abbrev rmWh_becomeSmall : Room := { frames := 0, cells := 0, slots := 0, locals := 0 }
set_option maxRecDepth 100000 in
set_option maxHeartbeats 1000000 in
theorem cWh_becomeSmall (l : Launch) (dC : Nat → ClassId) (dI : Nat → Nat → Nat) (dA : Nat → ClassId) (a : Nat) (g : Nat) (F : Int → Int) (u : Int) (k : Int) (hk : 0 ≤ k ∧ k < 1000000000) (sz : Nat) : Met l yWh_becomeSmall wsWh_becomeSmall rmWh_becomeSmall (PC (dC, dI) vwCl (tyA dA) XN [.ref a, .int (iI k)] (wWh dA a g F u []) sz) (qWh_becomeSmall dC dI dA a g F u k (va_A (wWh dA a g F u []) sz)) 0 0 (va_A (wWh dA a g F u []) sz) := by
  refine met_of (cc := prog_7_method_8_code) (maxL := 2) (ret := none) (Qc := qWh_becomeSmall dC dI dA a g F u k) XN_ok (by decide) rfl (Nat.le_of_ble_eq_true rfl) ?_
  intro p e s m below meth c ls A hx hb hr hml hown hts hlocks hnm hK hP hD hA hX hS hl
  have hl : lv_has ls 2 [(0, .ref a), (1, .int (iI k))] := hl
  have hown : s.vm.findClass "MacroReckoner$Whole" = some m.cls := hown
  obtain ⟨H, hH⟩ : ∃ H : Heap, H = s.heap := ⟨_, rfl⟩
  obtain ⟨locs, hlo⟩ : ∃ L : List Loc, L = [] := ⟨_, rfl⟩
  have hP : va_P (dC, dI) vwCl (wWh dA a g F u []) H := hH ▸ hP
  have hS : va_S A s.heap H locs := by rw [hH, hlo]; exact hS
  suffices hgo : W p l e rmWh_becomeSmall s m [.ref a, .int (iI k)].toArray below meth c H locs 0 0 (MQ below (qWh_becomeSmall dC dI dA a g F u k A) [.ref a, .int (iI k)].toArray s 0 0 A) (F0 m 0 ls []) by rw [hH, hlo] at hgo; exact hgo
  clear hH hlo
  refine lv_aload_n hx hb dWh_becomeSmall_0 rfl (lv_at hl 0 rfl) ?_
  refine va_get (D := (dC, dI)) (ci := 5) (v := .ref g) (C := "MacroReckoner$Whole") (T := TWh) (N := 2) hx hb hts inWh hown hK hP 0 rfl rfl 0 (by decide) (hts _ wt1_92) (fun _ h9 => h9) rfl dWh_becomeSmall_1 ?_
  refine lv_iconst (v := iI 0) hx hb dWh_becomeSmall_4 rfl ?_
  refine lv_iload_n hx hb dWh_becomeSmall_5 rfl (lv_at hl 1 rfl) ?_
  refine iv_iast (v := k) hx hb hK hP hD hS 1 0 rfl rfl (by decide) dWh_becomeSmall_6 (by omega) (by omega) (fun H locs hP hD hS => ?_)
  have hP : va_P (dC, dI) vwCl (wWh dA a g (up F 0 k) u []) H := hP
  have hD : va_D A (wWh dA a g (up F 0 k) u []) := hD
  refine lv_aload_n hx hb dWh_becomeSmall_7 rfl (lv_at hl 0 rfl) ?_
  refine lv_iload_n hx hb dWh_becomeSmall_8 rfl (lv_at hl 1 rfl) ?_
  refine iv_if_ne (tgt := 16) hx hb dWh_becomeSmall_9 (by decide) ⟨by omega, by omega⟩ (fun hc9 => ?_) (fun hc9 => ?_)
  · refine lv_iconst (v := iI 1) hx hb dWh_becomeSmall_16 rfl ?_
    refine va_put (D := (dC, dI)) (ci := 5) (v := .int (iI 1)) (ty := .int) (C := "MacroReckoner$Whole") (T := TWh) (N := 2) hx hb hts inWh tyWh tyWh_ok nmWh hown hK hP hD hS 0 rfl rfl 1 (by decide) (hts _ wt1_93) (fun _ h9 => h9) rfl (by decide +kernel) rfl rfl (Nat.le_of_ble_eq_true rfl) dWh_becomeSmall_17 (fun H locs hP hD hS => ?_)
    have hP : va_P (dC, dI) vwCl (wWh dA a g (up F 0 k) 1 []) H := hP
    have hD : va_D A (wWh dA a g (up F 0 k) 1 []) := hD
    exact rt_v hx hb hr hlocks hK hS dWh_becomeSmall_20 (up F 0 k, 1) hP hD (show WR (up F 0 k) 1 k from by first | exact small_e0 hc9 | exact small_e1 hk.1 hk.2 hc9)
  · refine lv_iconst (v := iI 0) hx hb dWh_becomeSmall_12 rfl ?_
    refine lv_goto (tgt := 17) hx hb dWh_becomeSmall_13 (by decide) ?_
    refine va_put (D := (dC, dI)) (ci := 5) (v := .int (iI 0)) (ty := .int) (C := "MacroReckoner$Whole") (T := TWh) (N := 2) hx hb hts inWh tyWh tyWh_ok nmWh hown hK hP hD hS 0 rfl rfl 1 (by decide) (hts _ wt1_93) (fun _ h9 => h9) rfl (by decide +kernel) rfl rfl (Nat.le_of_ble_eq_true rfl) dWh_becomeSmall_17 (fun H locs hP hD hS => ?_)
    have hP : va_P (dC, dI) vwCl (wWh dA a g (up F 0 k) 0 []) H := hP
    have hD : va_D A (wWh dA a g (up F 0 k) 0 []) := hD
    exact rt_v hx hb hr hlocks hK hS dWh_becomeSmall_20 (up F 0 k, 0) hP hD (show WR (up F 0 k) 0 k from by first | exact small_e0 hc9 | exact small_e1 hk.1 hk.2 hc9)

theorem dWh_divideBySmall_0 : decode prog_7_method_13_code 0 = .ok (.iload_n 1, 1) := by decide +kernel
theorem dWh_divideBySmall_1 : decode prog_7_method_13_code 1 = .ok (.ifCond .ne 4, 3) := by decide +kernel
theorem dWh_divideBySmall_4 : decode prog_7_method_13_code 4 = .ok (.return_, 1) := by decide +kernel
theorem dWh_divideBySmall_5 : decode prog_7_method_13_code 5 = .ok (.lconst 0, 1) := by decide +kernel
theorem dWh_divideBySmall_6 : decode prog_7_method_13_code 6 = .ok (.lstore_n 2, 1) := by decide +kernel
theorem dWh_divideBySmall_7 : decode prog_7_method_13_code 7 = .ok (.aload_n 0, 1) := by decide +kernel
theorem dWh_divideBySmall_8 : decode prog_7_method_13_code 8 = .ok (.getfield 13, 3) := by decide +kernel
theorem dWh_divideBySmall_11 : decode prog_7_method_13_code 11 = .ok (.iconst 1, 1) := by decide +kernel
theorem dWh_divideBySmall_12 : decode prog_7_method_13_code 12 = .ok (.isub, 1) := by decide +kernel
theorem dWh_divideBySmall_13 : decode prog_7_method_13_code 13 = .ok (.istore 4, 2) := by decide +kernel
theorem dWh_divideBySmall_15 : decode prog_7_method_13_code 15 = .ok (.iload 4, 2) := by decide +kernel
theorem dWh_divideBySmall_17 : decode prog_7_method_13_code 17 = .ok (.ifCond .lt 41, 3) := by decide +kernel
theorem dWh_divideBySmall_20 : decode prog_7_method_13_code 20 = .ok (.lload_n 2, 1) := by decide +kernel
theorem dWh_divideBySmall_21 : decode prog_7_method_13_code 21 = .ok (.ldc2_w 46, 3) := by decide +kernel
theorem dWh_divideBySmall_24 : decode prog_7_method_13_code 24 = .ok (.lmul, 1) := by decide +kernel
theorem dWh_divideBySmall_25 : decode prog_7_method_13_code 25 = .ok (.aload_n 0, 1) := by decide +kernel
theorem dWh_divideBySmall_26 : decode prog_7_method_13_code 26 = .ok (.getfield 9, 3) := by decide +kernel
theorem dWh_divideBySmall_29 : decode prog_7_method_13_code 29 = .ok (.iload 4, 2) := by decide +kernel
theorem dWh_divideBySmall_31 : decode prog_7_method_13_code 31 = .ok (.iaload, 1) := by decide +kernel
theorem dWh_divideBySmall_32 : decode prog_7_method_13_code 32 = .ok (.i2l, 1) := by decide +kernel
theorem dWh_divideBySmall_33 : decode prog_7_method_13_code 33 = .ok (.ladd, 1) := by decide +kernel
theorem dWh_divideBySmall_34 : decode prog_7_method_13_code 34 = .ok (.lstore_n 2, 1) := by decide +kernel
theorem dWh_divideBySmall_35 : decode prog_7_method_13_code 35 = .ok (.aload_n 0, 1) := by decide +kernel
theorem dWh_divideBySmall_36 : decode prog_7_method_13_code 36 = .ok (.getfield 9, 3) := by decide +kernel
theorem dWh_divideBySmall_39 : decode prog_7_method_13_code 39 = .ok (.iload 4, 2) := by decide +kernel
theorem dWh_divideBySmall_41 : decode prog_7_method_13_code 41 = .ok (.lload_n 2, 1) := by decide +kernel
theorem dWh_divideBySmall_42 : decode prog_7_method_13_code 42 = .ok (.iload_n 1, 1) := by decide +kernel
theorem dWh_divideBySmall_43 : decode prog_7_method_13_code 43 = .ok (.i2l, 1) := by decide +kernel
theorem dWh_divideBySmall_44 : decode prog_7_method_13_code 44 = .ok (.ldiv, 1) := by decide +kernel
theorem dWh_divideBySmall_45 : decode prog_7_method_13_code 45 = .ok (.l2i, 1) := by decide +kernel
theorem dWh_divideBySmall_46 : decode prog_7_method_13_code 46 = .ok (.iastore, 1) := by decide +kernel
theorem dWh_divideBySmall_47 : decode prog_7_method_13_code 47 = .ok (.lload_n 2, 1) := by decide +kernel
theorem dWh_divideBySmall_48 : decode prog_7_method_13_code 48 = .ok (.iload_n 1, 1) := by decide +kernel
theorem dWh_divideBySmall_49 : decode prog_7_method_13_code 49 = .ok (.i2l, 1) := by decide +kernel
theorem dWh_divideBySmall_50 : decode prog_7_method_13_code 50 = .ok (.lrem, 1) := by decide +kernel
theorem dWh_divideBySmall_51 : decode prog_7_method_13_code 51 = .ok (.lstore_n 2, 1) := by decide +kernel
theorem dWh_divideBySmall_52 : decode prog_7_method_13_code 52 = .ok (.iinc 4 (-1), 3) := by decide +kernel
theorem dWh_divideBySmall_55 : decode prog_7_method_13_code 55 = .ok (.goto (-40), 3) := by decide +kernel
theorem dWh_divideBySmall_58 : decode prog_7_method_13_code 58 = .ok (.aload_n 0, 1) := by decide +kernel
theorem dWh_divideBySmall_59 : decode prog_7_method_13_code 59 = .ok (.invokevirtual 48, 3) := by decide +kernel
theorem dWh_divideBySmall_62 : decode prog_7_method_13_code 62 = .ok (.return_, 1) := by decide +kernel
abbrev qWh_divideBySmall (dC : Nat → ClassId) (dI : Nat → Nat → Nat) (dA : Nat → ClassId) (a : Nat) (g : Nat) (F : Int → Int) (u : Int) (N : Int) (dv : Int) (A : Nat → Prop) : Array Value → State → Outcome → State → Prop := QV (dC, dI) vwCl (tyA dA) (fun (v_ : (Int → Int) × Int) => WR v_.1 v_.2 (N / dv)) (fun (v_ : (Int → Int) × Int) => wWh dA a g v_.1 v_.2 []) A
abbrev rmWh_divideBySmall : Room := { frames := 1, cells := 0, slots := 0, locals := 20 }
set_option maxRecDepth 100000 in
set_option maxHeartbeats 1000000 in
theorem cWh_divideBySmall (l : Launch) (dC : Nat → ClassId) (dI : Nat → Nat → Nat) (dA : Nat → ClassId) (a : Nat) (g : Nat) (F : Int → Int) (u : Int) (N : Int) (dv : Int) (hW : WD F u N) (hd : 1 ≤ dv ∧ dv ≤ 1000000000) (sz : Nat) : Met l yWh_divideBySmall wsWh_divideBySmall rmWh_divideBySmall (PC (dC, dI) vwCl (tyA dA) XN [.ref a, .int (iI dv)] (wWh dA a g F u []) sz) (qWh_divideBySmall dC dI dA a g F u N dv (va_A (wWh dA a g F u []) sz)) 0 0 (va_A (wWh dA a g F u []) sz) := by
  refine met_of (cc := prog_7_method_13_code) (maxL := 5) (ret := none) (Qc := qWh_divideBySmall dC dI dA a g F u N dv) XN_ok (by decide) rfl (Nat.le_of_ble_eq_true rfl) ?_
  intro p e s m below meth c ls A hx hb hr hml hown hts hlocks hnm hK hP hD hA hX hS hl
  have hl : lv_has ls 5 [(0, .ref a), (1, .int (iI dv))] := hl
  have hown : s.vm.findClass "MacroReckoner$Whole" = some m.cls := hown
  obtain ⟨H, hH⟩ : ∃ H : Heap, H = s.heap := ⟨_, rfl⟩
  obtain ⟨locs, hlo⟩ : ∃ L : List Loc, L = [] := ⟨_, rfl⟩
  have hP : va_P (dC, dI) vwCl (wWh dA a g F u []) H := hH ▸ hP
  have hS : va_S A s.heap H locs := by rw [hH, hlo]; exact hS
  suffices hgo : W p l e rmWh_divideBySmall s m [.ref a, .int (iI dv)].toArray below meth c H locs 0 0 (MQ below (qWh_divideBySmall dC dI dA a g F u N dv A) [.ref a, .int (iI dv)].toArray s 0 0 A) (F0 m 0 ls []) by rw [hH, hlo] at hgo; exact hgo
  clear hH hlo
  have hu := hW.1
  refine lv_iload_n hx hb dWh_divideBySmall_0 rfl (lv_at hl 1 rfl) ?_
  refine iv_if_ne (tgt := 5) hx hb dWh_divideBySmall_1 (by decide) ⟨by omega, by omega⟩ (fun hc1 => ?_) (fun hc1 => absurd hc1 (by omega))
  refine lv_lconst (v := iL 0) hx hb dWh_divideBySmall_5 rfl ?_
  refine lv_lstore_n (lv' := [(2, .long (iL 0)), (0, .ref a), (1, .int (iI dv))]) hx hb dWh_divideBySmall_6 rfl hl (by decide) rfl (fun ls hl => ?_)
  refine lv_aload_n hx hb dWh_divideBySmall_7 rfl (lv_at hl 1 rfl) ?_
  refine va_get (D := (dC, dI)) (ci := 5) (v := .int (iI u)) (C := "MacroReckoner$Whole") (T := TWh) (N := 2) hx hb hts inWh hown hK hP 0 rfl rfl 1 (by decide) (hts _ wt1_93) (fun _ h9 => h9) rfl dWh_divideBySmall_8 ?_
  refine lv_iconst (v := iI 1) hx hb dWh_divideBySmall_11 rfl ?_
  refine iv_isub hx hb dWh_divideBySmall_12 ?_
  refine lv_istore (lv' := [(4, .int (iI (u - 1))), (2, .long (iL 0)), (0, .ref a), (1, .int (iI dv))]) hx hb dWh_divideBySmall_13 hl (by decide) rfl (fun ls hl => ?_)
  have L15 : ∀ (n : Nat) (F9 : Int → Int) (rs : Int) (i : Int) (H : Heap) (locs : List Loc) (ls : Array Slot), (dbsJ F u dv F9 rs i) → (i + 1).toNat < n → va_P (dC, dI) vwCl (wWh dA a g F9 u []) H → va_D A (wWh dA a g F9 u []) → va_S A s.heap H locs → lv_has ls 5 [(4, .int (iI i)), (2, .long (iL rs)), (0, .ref a), (1, .int (iI dv))] → W p l e rmWh_divideBySmall s m [.ref a, .int (iI dv)].toArray below meth c H locs 0 0 (MQ below (qWh_divideBySmall dC dI dA a g F u N dv A) [.ref a, .int (iI dv)].toArray s 0 0 A) (F0 m 15 ls []) := by
    intro n
    induction n with
    | zero => intro F9 rs i H locs ls hJ hn; omega
    | succ n ih =>
      intro F9 rs i H locs ls hJ hn hP hD hS hl
      have hj1 := hJ.1
      have hj2 := hJ.2.1
      have hj3 := hJ.2.2.1
      have hj4 := hJ.2.2.2.1
      have ih15 := ih
      refine lv_iload hx hb dWh_divideBySmall_15 (lv_at hl 0 rfl) ?_
      refine iv_if_lt (tgt := 58) hx hb dWh_divideBySmall_17 (by decide) ⟨by omega, by omega⟩ (fun hc17 => ?_) (fun hc17 => ?_)
      · refine lv_aload_n hx hb dWh_divideBySmall_58 rfl (lv_at hl 2 rfl) ?_
        refine cv_v (va_runV (C := "MacroReckoner$Whole") (As := []) (rest := []) ⟨hx, hb, hml, hown, hts⟩ (cWh_trim l dC dI dA a g F9 u (N / dv) (by exact dbs_e hW hJ hc17) H.size) (cwV 0 hts (gdV wt3_100 wt3_102 ws2_1 wt1_5 wt3_103) rfl rfl rfl ⟨rfl, by decide, by decide, by decide +kernel⟩ ⟨by decide, by decide⟩) (preV (q := ("MacroReckoner$Whole", TWh, 2)) hK hP hD hS hA XN_ok trivial [0, 1] rfl rfl 0 rfl rfl) rfl rfl hl.1 rfl (lv_room (Nat.le_of_ble_eq_true rfl)) dWh_divideBySmall_59 ⟨Nat.zero_le _, Nat.zero_le _⟩) hP hD hS hA [0, 1] [] rfl (fun v_ => wWh dA a g F9 v_ []) (fun _ => rfl) ([] : va_W) rfl (fun _ => rfl) [a, g] rfl (fun _ => rfl) (fun _ => rfl) (fun u_ H locs hq59 hP hD hS => ?_)
        obtain ⟨u1_59, rfl⟩ : ∃ z, z = u_ := ⟨_, rfl⟩
        have hP : va_P (dC, dI) vwCl (wWh dA a g F9 u1_59 []) H := hP
        have hD : va_D A (wWh dA a g F9 u1_59 []) := hD
        have hq59 : WR F9 u1_59 (N / dv) := hq59
        exact rt_v hx hb hr hlocks hK hS dWh_divideBySmall_62 (F9, u1_59) hP hD (show WR F9 u1_59 (N / dv) from by exact hq59)
      · have hd0 := hW.2.1 i (by omega) (by omega)
        have hx9 := dbs_x hJ (by omega) hd0
        refine lv_lload_n hx hb dWh_divideBySmall_20 rfl (lv_at hl 1 rfl) ?_
        refine lv_ldc2 (v := iL 1000000000) hx hb hown ((by decide : (1000000000 : Int64) = iL 1000000000) ▸ hts _ wt3_21) dWh_divideBySmall_21 ?_
        refine iv_lmul hx hb dWh_divideBySmall_24 ?_
        refine lv_aload_n hx hb dWh_divideBySmall_25 rfl (lv_at hl 2 rfl) ?_
        refine va_get (D := (dC, dI)) (ci := 5) (v := .ref g) (C := "MacroReckoner$Whole") (T := TWh) (N := 2) hx hb hts inWh hown hK hP 0 rfl rfl 0 (by decide) (hts _ wt1_92) (fun _ h9 => h9) rfl dWh_divideBySmall_26 ?_
        refine lv_iload hx hb dWh_divideBySmall_29 (lv_at hl 0 rfl) ?_
        refine iv_iald hx hb hK hP 1 0 rfl rfl (by decide) dWh_divideBySmall_31 (by omega) (by omega) ?_
        refine iv_i2l hx hb dWh_divideBySmall_32 ⟨by omega, by omega⟩ ?_
        refine iv_ladd hx hb dWh_divideBySmall_33 ?_
        refine lv_lstore_n (lv' := [(2, .long (iL ((rs * 1000000000) + (F9 i)))), (4, .int (iI i)), (0, .ref a), (1, .int (iI dv))]) hx hb dWh_divideBySmall_34 rfl hl (by decide) rfl (fun ls hl => ?_)
        refine lv_aload_n hx hb dWh_divideBySmall_35 rfl (lv_at hl 2 rfl) ?_
        refine va_get (D := (dC, dI)) (ci := 5) (v := .ref g) (C := "MacroReckoner$Whole") (T := TWh) (N := 2) hx hb hts inWh hown hK hP 0 rfl rfl 0 (by decide) (hts _ wt1_92) (fun _ h9 => h9) rfl dWh_divideBySmall_36 ?_
        refine lv_iload hx hb dWh_divideBySmall_39 (lv_at hl 1 rfl) ?_
        refine lv_lload_n hx hb dWh_divideBySmall_41 rfl (lv_at hl 0 rfl) ?_
        refine lv_iload_n hx hb dWh_divideBySmall_42 rfl (lv_at hl 3 rfl) ?_
        refine iv_i2l hx hb dWh_divideBySmall_43 ⟨by omega, by omega⟩ ?_
        refine iv_ldiv hx hb dWh_divideBySmall_44 (by omega) ⟨by omega, by omega⟩ (by omega) ⟨by omega, by omega⟩ ?_
        refine iv_l2i hx hb dWh_divideBySmall_45 ?_
        refine iv_iast (v := ((rs * 1000000000) + (F9 i)) / dv) hx hb hK hP hD hS 1 0 rfl rfl (by decide) dWh_divideBySmall_46 (by omega) (by omega) (fun H locs hP hD hS => ?_)
        have hP : va_P (dC, dI) vwCl (wWh dA a g (up F9 i (((rs * 1000000000) + (F9 i)) / dv)) u []) H := hP
        have hD : va_D A (wWh dA a g (up F9 i (((rs * 1000000000) + (F9 i)) / dv)) u []) := hD
        refine lv_lload_n hx hb dWh_divideBySmall_47 rfl (lv_at hl 0 rfl) ?_
        refine lv_iload_n hx hb dWh_divideBySmall_48 rfl (lv_at hl 3 rfl) ?_
        refine iv_i2l hx hb dWh_divideBySmall_49 ⟨by omega, by omega⟩ ?_
        refine iv_lrem hx hb dWh_divideBySmall_50 (by omega) ⟨by omega, by omega⟩ (by omega) ⟨by omega, by omega⟩ ?_
        refine lv_lstore_n (lv' := [(2, .long (iL (((rs * 1000000000) + (F9 i)) % dv))), (4, .int (iI i)), (0, .ref a), (1, .int (iI dv))]) hx hb dWh_divideBySmall_51 rfl hl (by decide) rfl (fun ls hl => ?_)
        refine lv_iinc (k := 1) (lv' := [(4, .int (iI (i - 1))), (2, .long (iL (((rs * 1000000000) + (F9 i)) % dv))), (0, .ref a), (1, .int (iI dv))]) (v := iI (i - 1)) hx hb dWh_divideBySmall_52 hl rfl (by rw [show (Int32.ofInt (-1)) = iI (-1) from rfl, ← iI_add]; congr 1) (by decide) rfl (fun ls hl => ?_)
        refine lv_goto (tgt := 15) hx hb dWh_divideBySmall_55 (by decide) ?_
        exact ih15 (up F9 i (((rs * 1000000000) + (F9 i)) / dv)) (((rs * 1000000000) + (F9 i)) % dv) (i - 1) H locs ls (by exact dbs_s hJ hc17 hd0) (by omega) hP hD hS (lv_sub hl [0, 1, 2, 3] rfl)
  exact L15 _ F 0 (u - 1) H locs ls (by exact dbs_0 hu.1 hd.1) (Nat.lt_succ_self _) hP hD hS (lv_sub hl [0, 1, 2, 3] rfl)

theorem dWh_widen_0 : decode prog_7_method_10_code 0 = .ok (.iload_n 1, 1) := by decide +kernel
theorem dWh_widen_1 : decode prog_7_method_10_code 1 = .ok (.bipush 9, 2) := by decide +kernel
theorem dWh_widen_3 : decode prog_7_method_10_code 3 = .ok (.idiv, 1) := by decide +kernel
theorem dWh_widen_4 : decode prog_7_method_10_code 4 = .ok (.istore_n 2, 1) := by decide +kernel
theorem dWh_widen_5 : decode prog_7_method_10_code 5 = .ok (.aload_n 0, 1) := by decide +kernel
theorem dWh_widen_6 : decode prog_7_method_10_code 6 = .ok (.getfield 13, 3) := by decide +kernel
theorem dWh_widen_9 : decode prog_7_method_10_code 9 = .ok (.ifCond .eq 14, 3) := by decide +kernel
theorem dWh_widen_12 : decode prog_7_method_10_code 12 = .ok (.iload_n 2, 1) := by decide +kernel
theorem dWh_widen_13 : decode prog_7_method_10_code 13 = .ok (.aload_n 0, 1) := by decide +kernel
theorem dWh_widen_14 : decode prog_7_method_10_code 14 = .ok (.getfield 13, 3) := by decide +kernel
theorem dWh_widen_17 : decode prog_7_method_10_code 17 = .ok (.iadd, 1) := by decide +kernel
theorem dWh_widen_18 : decode prog_7_method_10_code 18 = .ok (.bipush 32, 2) := by decide +kernel
theorem dWh_widen_20 : decode prog_7_method_10_code 20 = .ok (.if_icmp .lt 4, 3) := by decide +kernel
theorem dWh_widen_23 : decode prog_7_method_10_code 23 = .ok (.return_, 1) := by decide +kernel
theorem dWh_widen_24 : decode prog_7_method_10_code 24 = .ok (.aload_n 0, 1) := by decide +kernel
theorem dWh_widen_25 : decode prog_7_method_10_code 25 = .ok (.getfield 9, 3) := by decide +kernel
theorem dWh_widen_28 : decode prog_7_method_10_code 28 = .ok (.iconst 0, 1) := by decide +kernel
theorem dWh_widen_29 : decode prog_7_method_10_code 29 = .ok (.aload_n 0, 1) := by decide +kernel
theorem dWh_widen_30 : decode prog_7_method_10_code 30 = .ok (.getfield 9, 3) := by decide +kernel
theorem dWh_widen_33 : decode prog_7_method_10_code 33 = .ok (.iload_n 2, 1) := by decide +kernel
theorem dWh_widen_34 : decode prog_7_method_10_code 34 = .ok (.aload_n 0, 1) := by decide +kernel
theorem dWh_widen_35 : decode prog_7_method_10_code 35 = .ok (.getfield 13, 3) := by decide +kernel
theorem dWh_widen_38 : decode prog_7_method_10_code 38 = .ok (.invokestatic 20, 3) := by decide +kernel
theorem dWh_widen_41 : decode prog_7_method_10_code 41 = .ok (.iconst 0, 1) := by decide +kernel
theorem dWh_widen_42 : decode prog_7_method_10_code 42 = .ok (.istore_n 3, 1) := by decide +kernel
theorem dWh_widen_43 : decode prog_7_method_10_code 43 = .ok (.iload_n 3, 1) := by decide +kernel
theorem dWh_widen_44 : decode prog_7_method_10_code 44 = .ok (.iload_n 2, 1) := by decide +kernel
theorem dWh_widen_45 : decode prog_7_method_10_code 45 = .ok (.if_icmp .ge 16, 3) := by decide +kernel
theorem dWh_widen_48 : decode prog_7_method_10_code 48 = .ok (.aload_n 0, 1) := by decide +kernel
theorem dWh_widen_49 : decode prog_7_method_10_code 49 = .ok (.getfield 9, 3) := by decide +kernel
theorem dWh_widen_52 : decode prog_7_method_10_code 52 = .ok (.iload_n 3, 1) := by decide +kernel
theorem dWh_widen_53 : decode prog_7_method_10_code 53 = .ok (.iconst 0, 1) := by decide +kernel
theorem dWh_widen_54 : decode prog_7_method_10_code 54 = .ok (.iastore, 1) := by decide +kernel
theorem dWh_widen_55 : decode prog_7_method_10_code 55 = .ok (.iinc 3 1, 3) := by decide +kernel
theorem dWh_widen_58 : decode prog_7_method_10_code 58 = .ok (.goto (-15), 3) := by decide +kernel
theorem dWh_widen_61 : decode prog_7_method_10_code 61 = .ok (.aload_n 0, 1) := by decide +kernel
theorem dWh_widen_62 : decode prog_7_method_10_code 62 = .ok (.dup, 1) := by decide +kernel
theorem dWh_widen_63 : decode prog_7_method_10_code 63 = .ok (.getfield 13, 3) := by decide +kernel
theorem dWh_widen_66 : decode prog_7_method_10_code 66 = .ok (.iload_n 2, 1) := by decide +kernel
theorem dWh_widen_67 : decode prog_7_method_10_code 67 = .ok (.iadd, 1) := by decide +kernel
theorem dWh_widen_68 : decode prog_7_method_10_code 68 = .ok (.putfield 13, 3) := by decide +kernel
theorem dWh_widen_71 : decode prog_7_method_10_code 71 = .ok (.aload_n 0, 1) := by decide +kernel
theorem dWh_widen_72 : decode prog_7_method_10_code 72 = .ok (.getstatic 17, 3) := by decide +kernel
theorem dWh_widen_75 : decode prog_7_method_10_code 75 = .ok (.iload_n 1, 1) := by decide +kernel
theorem dWh_widen_76 : decode prog_7_method_10_code 76 = .ok (.bipush 9, 2) := by decide +kernel
theorem dWh_widen_78 : decode prog_7_method_10_code 78 = .ok (.irem, 1) := by decide +kernel
theorem dWh_widen_79 : decode prog_7_method_10_code 79 = .ok (.iaload, 1) := by decide +kernel
theorem dWh_widen_80 : decode prog_7_method_10_code 80 = .ok (.iconst 0, 1) := by decide +kernel
theorem dWh_widen_81 : decode prog_7_method_10_code 81 = .ok (.invokevirtual 33, 3) := by decide +kernel
theorem dWh_widen_84 : decode prog_7_method_10_code 84 = .ok (.return_, 1) := by decide +kernel
abbrev qWh_widen (dC : Nat → ClassId) (dI : Nat → Nat → Nat) (dA : Nat → ClassId) (dS : Nat → Nat) (a : Nat) (g : Nat) (F : Int → Int) (u : Int) (N : Int) (d9 : Int) (A : Nat → Prop) : Array Value → State → Outcome → State → Prop := QV (dC, dI) vwCl (tyA dA) (fun (v_ : (Int → Int) × Int) => WR v_.1 v_.2 (N * PW 10 d9)) (fun (v_ : (Int → Int) × Int) => wWh dA a g v_.1 v_.2 []) A
abbrev rmWh_widen : Room := { frames := 1, cells := 0, slots := 0, locals := 60 }
set_option maxRecDepth 100000 in
set_option maxHeartbeats 1000000 in
theorem cWh_widen (l : Launch) (dC : Nat → ClassId) (dI : Nat → Nat → Nat) (dA : Nat → ClassId) (dS : Nat → Nat) (a : Nat) (g : Nat) (F : Int → Int) (u : Int) (N : Int) (d9 : Int) (hW : WR F u N) (hd : 0 ≤ d9 ∧ d9 ≤ 1000) (hbd : N * PW 10 d9 < PW 1000000000 31) (sz : Nat) : Met l yWh_widen wsWh_widen rmWh_widen (PC (dC, dI) vwCl (tyA dA) (XC dS) [.ref a, .int (iI d9)] (wWh dA a g F u []) sz) (qWh_widen dC dI dA dS a g F u N d9 (va_A (wWh dA a g F u []) sz)) 0 0 (va_A (wWh dA a g F u []) sz) := by
  refine met_of (cc := prog_7_method_10_code) (maxL := 4) (ret := none) (Qc := qWh_widen dC dI dA dS a g F u N d9) (XC_ok dS) (by decide) rfl (Nat.le_of_ble_eq_true rfl) ?_
  intro p e s m below meth c ls A hx hb hr hml hown hts hlocks hnm hK hP hD hA hX hS hl
  have hl : lv_has ls 4 [(0, .ref a), (1, .int (iI d9))] := hl
  have hown : s.vm.findClass "MacroReckoner$Whole" = some m.cls := hown
  obtain ⟨H, hH⟩ : ∃ H : Heap, H = s.heap := ⟨_, rfl⟩
  obtain ⟨locs, hlo⟩ : ∃ L : List Loc, L = [] := ⟨_, rfl⟩
  have hP : va_P (dC, dI) vwCl (wWh dA a g F u []) H := hH ▸ hP
  have hS : va_S A s.heap H locs := by rw [hH, hlo]; exact hS
  suffices hgo : W p l e rmWh_widen s m [.ref a, .int (iI d9)].toArray below meth c H locs 0 0 (MQ below (qWh_widen dC dI dA dS a g F u N d9 A) [.ref a, .int (iI d9)].toArray s 0 0 A) (F0 m 0 ls []) by rw [hH, hlo] at hgo; exact hgo
  clear hH hlo
  have hu := hW.1
  have hz := WR_z hW
  refine lv_iload_n hx hb dWh_widen_0 rfl (lv_at hl 1 rfl) ?_
  refine lv_bipush (v := iI 9) hx hb dWh_widen_1 (by decide) ?_
  refine iv_idiv hx hb dWh_widen_3 (by omega) ⟨by omega, by omega⟩ (by omega) ⟨by decide, by decide⟩ ?_
  refine lv_istore_n (lv' := [(2, .int (iI (d9 / 9))), (0, .ref a), (1, .int (iI d9))]) hx hb dWh_widen_4 rfl hl (by decide) rfl (fun ls hl => ?_)
  refine lv_aload_n hx hb dWh_widen_5 rfl (lv_at hl 1 rfl) ?_
  refine va_get (D := (dC, dI)) (ci := 5) (v := .int (iI u)) (C := "MacroReckoner$Whole") (T := TWh) (N := 2) hx hb hts inWh hown hK hP 0 rfl rfl 1 (by decide) (hts _ wt1_93) (fun _ h9 => h9) rfl dWh_widen_6 ?_
  refine iv_if_eq (tgt := 23) hx hb dWh_widen_9 (by decide) ⟨by omega, by omega⟩ (fun hc9 => ?_) (fun hc9 => ?_)
  · exact rt_v hx hb hr hlocks hK hS dWh_widen_23 (F, u) hP hD (show WR F u (N * PW 10 d9) from by rw [show N = 0 by omega, Int.zero_mul]; rw [show N = 0 by omega] at hW; exact hW)
  · have hr9 := widen_r hW (by omega) hd.1 hbd
    refine lv_iload_n hx hb dWh_widen_12 rfl (lv_at hl 0 rfl) ?_
    refine lv_aload_n hx hb dWh_widen_13 rfl (lv_at hl 1 rfl) ?_
    refine va_get (D := (dC, dI)) (ci := 5) (v := .int (iI u)) (C := "MacroReckoner$Whole") (T := TWh) (N := 2) hx hb hts inWh hown hK hP 0 rfl rfl 1 (by decide) (hts _ wt1_93) (fun _ h9 => h9) rfl dWh_widen_14 ?_
    refine iv_iadd hx hb dWh_widen_17 ?_
    refine lv_bipush (v := iI 32) hx hb dWh_widen_18 (by decide) ?_
    refine iv_icmp_lt (tgt := 24) hx hb dWh_widen_20 (by decide) ⟨by omega, by omega⟩ ⟨by decide, by decide⟩ (fun hc20 => ?_) (fun hc20 => absurd hc20 (by omega))
    refine lv_aload_n hx hb dWh_widen_24 rfl (lv_at hl 1 rfl) ?_
    refine va_get (D := (dC, dI)) (ci := 5) (v := .ref g) (C := "MacroReckoner$Whole") (T := TWh) (N := 2) hx hb hts inWh hown hK hP 0 rfl rfl 0 (by decide) (hts _ wt1_92) (fun _ h9 => h9) rfl dWh_widen_25 ?_
    refine lv_iconst (v := iI 0) hx hb dWh_widen_28 rfl ?_
    refine lv_aload_n hx hb dWh_widen_29 rfl (lv_at hl 1 rfl) ?_
    refine va_get (D := (dC, dI)) (ci := 5) (v := .ref g) (C := "MacroReckoner$Whole") (T := TWh) (N := 2) hx hb hts inWh hown hK hP 0 rfl rfl 0 (by decide) (hts _ wt1_92) (fun _ h9 => h9) rfl dWh_widen_30 ?_
    refine lv_iload_n hx hb dWh_widen_33 rfl (lv_at hl 0 rfl) ?_
    refine lv_aload_n hx hb dWh_widen_34 rfl (lv_at hl 1 rfl) ?_
    refine va_get (D := (dC, dI)) (ci := 5) (v := .int (iI u)) (C := "MacroReckoner$Whole") (T := TWh) (N := 2) hx hb hts inWh hown hK hP 0 rfl rfl 1 (by decide) (hts _ wt1_93) (fun _ h9 => h9) rfl dWh_widen_35 ?_
    refine iv_copy hx hb (hml.trans hl.1.symm) hown (hts _ wt3_48) (hts _ wt1_217) (hts _ wt1_216) (hts _ wt1_9) hK hP hD hS 1 1 0 0 rfl rfl rfl rfl rfl (by decide) (Nat.le_of_ble_eq_true rfl) (by decide) (by decide) dWh_widen_38 (by omega) (by omega) (by omega) (by omega) (by omega) (fun _ _ _ => rfl) (fun H locs hP hD hS => ?_)
    have hP : va_P (dC, dI) vwCl (wWh dA a g (cpI F F 0 (d9 / 9) u) u []) H := hP
    have hD : va_D A (wWh dA a g (cpI F F 0 (d9 / 9) u) u []) := hD
    refine lv_iconst (v := iI 0) hx hb dWh_widen_41 rfl ?_
    refine lv_istore_n (lv' := [(3, .int (iI 0)), (2, .int (iI (d9 / 9))), (0, .ref a), (1, .int (iI d9))]) hx hb dWh_widen_42 rfl hl (by decide) rfl (fun ls hl => ?_)
    have L43 : ∀ (n : Nat) (F9 : Int → Int) (i : Int) (H : Heap) (locs : List Loc) (ls : Array Slot), (0 ≤ i ∧ i ≤ d9 / 9) → (∀ j, 0 ≤ j → j < i → F9 j = 0) → (∀ j, i ≤ j → F9 j = cpI F F 0 (d9 / 9) u j) → (d9 / 9 - i).toNat < n → va_P (dC, dI) vwCl (wWh dA a g F9 u []) H → va_D A (wWh dA a g F9 u []) → va_S A s.heap H locs → lv_has ls 4 [(3, .int (iI i)), (2, .int (iI (d9 / 9))), (0, .ref a), (1, .int (iI d9))] → W p l e rmWh_widen s m [.ref a, .int (iI d9)].toArray below meth c H locs 0 0 (MQ below (qWh_widen dC dI dA dS a g F u N d9 A) [.ref a, .int (iI d9)].toArray s 0 0 A) (F0 m 43 ls []) := by
      intro n
      induction n with
      | zero => intro F9 i H locs ls hi hj1 hj2 hn; omega
      | succ n ih =>
        intro F9 i H locs ls hi hj1 hj2 hn hP hD hS hl
        have ih43 := ih
        refine lv_iload_n hx hb dWh_widen_43 rfl (lv_at hl 0 rfl) ?_
        refine lv_iload_n hx hb dWh_widen_44 rfl (lv_at hl 1 rfl) ?_
        refine iv_icmp_ge (tgt := 61) hx hb dWh_widen_45 (by decide) ⟨by omega, by omega⟩ ⟨by omega, by omega⟩ (fun hc45 => ?_) (fun hc45 => ?_)
        · refine lv_aload_n hx hb dWh_widen_61 rfl (lv_at hl 2 rfl) ?_
          refine lv_dup hx hb dWh_widen_62 rfl ?_
          refine va_get (D := (dC, dI)) (ci := 5) (v := .int (iI u)) (C := "MacroReckoner$Whole") (T := TWh) (N := 2) hx hb hts inWh hown hK hP 0 rfl rfl 1 (by decide) (hts _ wt1_93) (fun _ h9 => h9) rfl dWh_widen_63 ?_
          refine lv_iload_n hx hb dWh_widen_66 rfl (lv_at hl 1 rfl) ?_
          refine iv_iadd hx hb dWh_widen_67 ?_
          refine va_put (D := (dC, dI)) (ci := 5) (v := .int (iI (u + (d9 / 9)))) (ty := .int) (C := "MacroReckoner$Whole") (T := TWh) (N := 2) hx hb hts inWh tyWh tyWh_ok nmWh hown hK hP hD hS 0 rfl rfl 1 (by decide) (hts _ wt1_93) (fun _ h9 => h9) rfl (by decide +kernel) rfl rfl (Nat.le_of_ble_eq_true rfl) dWh_widen_68 (fun H locs hP hD hS => ?_)
          have hP : va_P (dC, dI) vwCl (wWh dA a g F9 (u + (d9 / 9)) []) H := hP
          have hD : va_D A (wWh dA a g F9 (u + (d9 / 9)) []) := hD
          have hWk := widen_e hW (by omega) (show 0 ≤ d9 / 9 by omega) (by omega) (fun j x y => hj1 j x (by omega)) (fun j x y => by rw [hj2 j (by omega), cp_in (by omega) (by omega)]; congr 1; omega)
          have hpw := pw_split hd.1
          have hmu := Int.mul_assoc N (PW 1000000000 (d9 / 9)) (PW 10 (d9 % 9))
          have hmo := PW_mono (b := 1000000000) (i := 31) (j := 32) (by decide) (by decide) (by decide)
          rw [← hpw] at hmu
          refine lv_aload_n hx hb dWh_widen_71 rfl (lv_at hl 2 rfl) ?_
          refine va_gets hx hb hX.2.2.1 hS hown (hts _ wt3_34) (fun _ h9 => h9) dWh_widen_72 ?_
          refine lv_iload_n hx hb dWh_widen_75 rfl (lv_at hl 3 rfl) ?_
          refine lv_bipush (v := iI 9) hx hb dWh_widen_76 (by decide) ?_
          refine iv_irem hx hb dWh_widen_78 (by omega) ⟨by omega, by omega⟩ (by omega) ⟨by decide, by decide⟩ ?_
          have hp8 := p10_8 (i := d9 % 9) (by omega) (by omega)
          refine va_ti (v := .int (iI (PW 10 (d9 % 9)))) hx hb hX.2.2.2.1 hS (iI_vp (by omega) (by omega) (by decide)) (tens_at (by omega) (by omega)) dWh_widen_79 ?_
          refine lv_iconst (v := iI 0) hx hb dWh_widen_80 rfl ?_
          refine cv_v (va_runV (C := "MacroReckoner$Whole") (As := [.int (iI (PW 10 (d9 % 9))), .int (iI 0)]) (rest := []) ⟨hx, hb, hml, hown, hts⟩ (cWh_timesSmallPlus l dC dI dA a g F9 ((u + (d9 / 9))) (N * PW 1000000000 (d9 / 9)) (PW 10 (d9 % 9)) 0 (by exact hWk) (by omega) (by omega) (by omega) H.size) (cwV 2 hts (gdV wt3_76 wt3_18 wt3_19 wt1_5 wt3_20) rfl rfl rfl ⟨rfl, by decide, by decide, by decide +kernel⟩ ⟨by decide, by decide⟩) (preV (q := ("MacroReckoner$Whole", TWh, 2)) hK hP hD hS hA XN_ok trivial [0, 1] rfl rfl 0 rfl rfl) rfl rfl hl.1 rfl (lv_room (Nat.le_of_ble_eq_true rfl)) dWh_widen_81 ⟨Nat.zero_le _, Nat.zero_le _⟩) hP hD hS hA [0, 1] [] rfl (fun v_ => wWh dA a g v_.1 v_.2 []) (fun _ => rfl) ([] : va_W) rfl (fun _ => rfl) [a, g] rfl (fun _ => rfl) (fun _ => rfl) (fun u_ H locs hq81 hP hD hS => ?_)
          obtain ⟨F1_81, u1_81⟩ := u_
          have hP : va_P (dC, dI) vwCl (wWh dA a g F1_81 u1_81 []) H := hP
          have hD : va_D A (wWh dA a g F1_81 u1_81 []) := hD
          have hq81 : WR F1_81 u1_81 ((N * PW 1000000000 (d9 / 9)) * (PW 10 (d9 % 9)) + 0) := hq81
          exact rt_v hx hb hr hlocks hK hS dWh_widen_84 (F1_81, u1_81) hP hD (show WR F1_81 u1_81 (N * PW 10 d9) from by have := hq81; rw [hmu, Int.add_zero] at this; exact this)
        · refine lv_aload_n hx hb dWh_widen_48 rfl (lv_at hl 2 rfl) ?_
          refine va_get (D := (dC, dI)) (ci := 5) (v := .ref g) (C := "MacroReckoner$Whole") (T := TWh) (N := 2) hx hb hts inWh hown hK hP 0 rfl rfl 0 (by decide) (hts _ wt1_92) (fun _ h9 => h9) rfl dWh_widen_49 ?_
          refine lv_iload_n hx hb dWh_widen_52 rfl (lv_at hl 0 rfl) ?_
          refine lv_iconst (v := iI 0) hx hb dWh_widen_53 rfl ?_
          refine iv_iast (v := 0) hx hb hK hP hD hS 1 0 rfl rfl (by decide) dWh_widen_54 (by omega) (by omega) (fun H locs hP hD hS => ?_)
          have hP : va_P (dC, dI) vwCl (wWh dA a g (up F9 i 0) u []) H := hP
          have hD : va_D A (wWh dA a g (up F9 i 0) u []) := hD
          refine lv_iinc (k := 0) (lv' := [(3, .int (iI (i + 1))), (2, .int (iI (d9 / 9))), (0, .ref a), (1, .int (iI d9))]) (v := iI (i + 1)) hx hb dWh_widen_55 hl rfl (iI_add _ _).symm (by decide) rfl (fun ls hl => ?_)
          refine lv_goto (tgt := 43) hx hb dWh_widen_58 (by decide) ?_
          exact ih43 (up F9 i 0) (i + 1) H locs ls (by omega) (by intro j a b; by_cases q : j = i; rw [q, up_s]; rw [up_n q]; exact hj1 j a (by omega)) (by intro j a; rw [up_n (by omega)]; exact hj2 j (by omega)) (by omega) hP hD hS (lv_sub hl [0, 1, 2, 3] rfl)
    exact L43 _ (cpI F F 0 (d9 / 9) u) 0 H locs ls (by omega) (by intro j a b; omega) (by intro j _; rfl) (Nat.lt_succ_self _) hP hD hS (lv_sub hl [0, 1, 2, 3] rfl)

theorem dWh_cut_0 : decode prog_7_method_11_code 0 = .ok (.iload_n 1, 1) := by decide +kernel
theorem dWh_cut_1 : decode prog_7_method_11_code 1 = .ok (.bipush 9, 2) := by decide +kernel
theorem dWh_cut_3 : decode prog_7_method_11_code 3 = .ok (.idiv, 1) := by decide +kernel
theorem dWh_cut_4 : decode prog_7_method_11_code 4 = .ok (.aload_n 0, 1) := by decide +kernel
theorem dWh_cut_5 : decode prog_7_method_11_code 5 = .ok (.getfield 13, 3) := by decide +kernel
theorem dWh_cut_8 : decode prog_7_method_11_code 8 = .ok (.invokestatic 37, 3) := by decide +kernel
theorem dWh_cut_11 : decode prog_7_method_11_code 11 = .ok (.istore_n 2, 1) := by decide +kernel
theorem dWh_cut_12 : decode prog_7_method_11_code 12 = .ok (.aload_n 0, 1) := by decide +kernel
theorem dWh_cut_13 : decode prog_7_method_11_code 13 = .ok (.dup, 1) := by decide +kernel
theorem dWh_cut_14 : decode prog_7_method_11_code 14 = .ok (.getfield 13, 3) := by decide +kernel
theorem dWh_cut_17 : decode prog_7_method_11_code 17 = .ok (.iload_n 2, 1) := by decide +kernel
theorem dWh_cut_18 : decode prog_7_method_11_code 18 = .ok (.isub, 1) := by decide +kernel
theorem dWh_cut_19 : decode prog_7_method_11_code 19 = .ok (.putfield 13, 3) := by decide +kernel
theorem dWh_cut_22 : decode prog_7_method_11_code 22 = .ok (.aload_n 0, 1) := by decide +kernel
theorem dWh_cut_23 : decode prog_7_method_11_code 23 = .ok (.getfield 9, 3) := by decide +kernel
theorem dWh_cut_26 : decode prog_7_method_11_code 26 = .ok (.iload_n 2, 1) := by decide +kernel
theorem dWh_cut_27 : decode prog_7_method_11_code 27 = .ok (.aload_n 0, 1) := by decide +kernel
theorem dWh_cut_28 : decode prog_7_method_11_code 28 = .ok (.getfield 9, 3) := by decide +kernel
theorem dWh_cut_31 : decode prog_7_method_11_code 31 = .ok (.iconst 0, 1) := by decide +kernel
theorem dWh_cut_32 : decode prog_7_method_11_code 32 = .ok (.aload_n 0, 1) := by decide +kernel
theorem dWh_cut_33 : decode prog_7_method_11_code 33 = .ok (.getfield 13, 3) := by decide +kernel
theorem dWh_cut_36 : decode prog_7_method_11_code 36 = .ok (.invokestatic 20, 3) := by decide +kernel
theorem dWh_cut_39 : decode prog_7_method_11_code 39 = .ok (.aload_n 0, 1) := by decide +kernel
theorem dWh_cut_40 : decode prog_7_method_11_code 40 = .ok (.getstatic 17, 3) := by decide +kernel
theorem dWh_cut_43 : decode prog_7_method_11_code 43 = .ok (.iload_n 1, 1) := by decide +kernel
theorem dWh_cut_44 : decode prog_7_method_11_code 44 = .ok (.bipush 9, 2) := by decide +kernel
theorem dWh_cut_46 : decode prog_7_method_11_code 46 = .ok (.irem, 1) := by decide +kernel
theorem dWh_cut_47 : decode prog_7_method_11_code 47 = .ok (.iaload, 1) := by decide +kernel
theorem dWh_cut_48 : decode prog_7_method_11_code 48 = .ok (.invokevirtual 43, 3) := by decide +kernel
theorem dWh_cut_51 : decode prog_7_method_11_code 51 = .ok (.return_, 1) := by decide +kernel
abbrev qWh_cut (dC : Nat → ClassId) (dI : Nat → Nat → Nat) (dA : Nat → ClassId) (dS : Nat → Nat) (a : Nat) (g : Nat) (F : Int → Int) (u : Int) (N : Int) (d9 : Int) (A : Nat → Prop) : Array Value → State → Outcome → State → Prop := QV (dC, dI) vwCl (tyA dA) (fun (v_ : (Int → Int) × Int) => WR v_.1 v_.2 (N / PW 10 d9)) (fun (v_ : (Int → Int) × Int) => wWh dA a g v_.1 v_.2 []) A
abbrev rmWh_cut : Room := { frames := 2, cells := 0, slots := 0, locals := 60 }
set_option maxRecDepth 100000 in
set_option maxHeartbeats 1000000 in
theorem cWh_cut (l : Launch) (dC : Nat → ClassId) (dI : Nat → Nat → Nat) (dA : Nat → ClassId) (dS : Nat → Nat) (a : Nat) (g : Nat) (F : Int → Int) (u : Int) (N : Int) (d9 : Int) (hW : WR F u N) (hd : 0 ≤ d9 ∧ d9 ≤ 1000) (sz : Nat) : Met l yWh_cut wsWh_cut rmWh_cut (PC (dC, dI) vwCl (tyA dA) (XC dS) [.ref a, .int (iI d9)] (wWh dA a g F u []) sz) (qWh_cut dC dI dA dS a g F u N d9 (va_A (wWh dA a g F u []) sz)) 0 0 (va_A (wWh dA a g F u []) sz) := by
  refine met_of (cc := prog_7_method_11_code) (maxL := 3) (ret := none) (Qc := qWh_cut dC dI dA dS a g F u N d9) (XC_ok dS) (by decide) rfl (Nat.le_of_ble_eq_true rfl) ?_
  intro p e s m below meth c ls A hx hb hr hml hown hts hlocks hnm hK hP hD hA hX hS hl
  have hl : lv_has ls 3 [(0, .ref a), (1, .int (iI d9))] := hl
  have hown : s.vm.findClass "MacroReckoner$Whole" = some m.cls := hown
  obtain ⟨H, hH⟩ : ∃ H : Heap, H = s.heap := ⟨_, rfl⟩
  obtain ⟨locs, hlo⟩ : ∃ L : List Loc, L = [] := ⟨_, rfl⟩
  have hP : va_P (dC, dI) vwCl (wWh dA a g F u []) H := hH ▸ hP
  have hS : va_S A s.heap H locs := by rw [hH, hlo]; exact hS
  suffices hgo : W p l e rmWh_cut s m [.ref a, .int (iI d9)].toArray below meth c H locs 0 0 (MQ below (qWh_cut dC dI dA dS a g F u N d9 A) [.ref a, .int (iI d9)].toArray s 0 0 A) (F0 m 0 ls []) by rw [hH, hlo] at hgo; exact hgo
  clear hH hlo
  have hu := hW.1
  refine lv_iload_n hx hb dWh_cut_0 rfl (lv_at hl 1 rfl) ?_
  refine lv_bipush (v := iI 9) hx hb dWh_cut_1 (by decide) ?_
  refine iv_idiv hx hb dWh_cut_3 (by omega) ⟨by omega, by omega⟩ (by omega) ⟨by decide, by decide⟩ ?_
  refine lv_aload_n hx hb dWh_cut_4 rfl (lv_at hl 0 rfl) ?_
  refine va_get (D := (dC, dI)) (ci := 5) (v := .int (iI u)) (C := "MacroReckoner$Whole") (T := TWh) (N := 2) hx hb hts inWh hown hK hP 0 rfl rfl 1 (by decide) (hts _ wt1_93) (fun _ h9 => h9) rfl dWh_cut_5 ?_
  refine iv_mmin hx hb (hml.trans hl.1.symm) hown (hts _ wt3_113) (hts _ wt2_181) (hts _ wt1_16) (hts _ wt2_182) (by decide) (Nat.le_of_ble_eq_true rfl) (Nat.zero_le _) (Nat.zero_le _) dWh_cut_8 ⟨by omega, by omega⟩ ⟨by omega, by omega⟩ ?_
  refine lv_istore_n (lv' := [(2, .int (iI (min (d9 / 9) u))), (0, .ref a), (1, .int (iI d9))]) hx hb dWh_cut_11 rfl hl (by decide) rfl (fun ls hl => ?_)
  refine lv_aload_n hx hb dWh_cut_12 rfl (lv_at hl 1 rfl) ?_
  refine lv_dup hx hb dWh_cut_13 rfl ?_
  refine va_get (D := (dC, dI)) (ci := 5) (v := .int (iI u)) (C := "MacroReckoner$Whole") (T := TWh) (N := 2) hx hb hts inWh hown hK hP 0 rfl rfl 1 (by decide) (hts _ wt1_93) (fun _ h9 => h9) rfl dWh_cut_14 ?_
  refine lv_iload_n hx hb dWh_cut_17 rfl (lv_at hl 0 rfl) ?_
  refine iv_isub hx hb dWh_cut_18 ?_
  refine va_put (D := (dC, dI)) (ci := 5) (v := .int (iI (u - (min (d9 / 9) u)))) (ty := .int) (C := "MacroReckoner$Whole") (T := TWh) (N := 2) hx hb hts inWh tyWh tyWh_ok nmWh hown hK hP hD hS 0 rfl rfl 1 (by decide) (hts _ wt1_93) (fun _ h9 => h9) rfl (by decide +kernel) rfl rfl (Nat.le_of_ble_eq_true rfl) dWh_cut_19 (fun H locs hP hD hS => ?_)
  have hP : va_P (dC, dI) vwCl (wWh dA a g F (u - (min (d9 / 9) u)) []) H := hP
  have hD : va_D A (wWh dA a g F (u - (min (d9 / 9) u)) []) := hD
  refine lv_aload_n hx hb dWh_cut_22 rfl (lv_at hl 1 rfl) ?_
  refine va_get (D := (dC, dI)) (ci := 5) (v := .ref g) (C := "MacroReckoner$Whole") (T := TWh) (N := 2) hx hb hts inWh hown hK hP 0 rfl rfl 0 (by decide) (hts _ wt1_92) (fun _ h9 => h9) rfl dWh_cut_23 ?_
  refine lv_iload_n hx hb dWh_cut_26 rfl (lv_at hl 0 rfl) ?_
  refine lv_aload_n hx hb dWh_cut_27 rfl (lv_at hl 1 rfl) ?_
  refine va_get (D := (dC, dI)) (ci := 5) (v := .ref g) (C := "MacroReckoner$Whole") (T := TWh) (N := 2) hx hb hts inWh hown hK hP 0 rfl rfl 0 (by decide) (hts _ wt1_92) (fun _ h9 => h9) rfl dWh_cut_28 ?_
  refine lv_iconst (v := iI 0) hx hb dWh_cut_31 rfl ?_
  refine lv_aload_n hx hb dWh_cut_32 rfl (lv_at hl 1 rfl) ?_
  refine va_get (D := (dC, dI)) (ci := 5) (v := .int (iI ((u - (min (d9 / 9) u))))) (C := "MacroReckoner$Whole") (T := TWh) (N := 2) hx hb hts inWh hown hK hP 0 rfl rfl 1 (by decide) (hts _ wt1_93) (fun _ h9 => h9) rfl dWh_cut_33 ?_
  refine iv_copy hx hb (hml.trans hl.1.symm) hown (hts _ wt3_48) (hts _ wt1_217) (hts _ wt1_216) (hts _ wt1_9) hK hP hD hS 1 1 0 0 rfl rfl rfl rfl rfl (by decide) (Nat.le_of_ble_eq_true rfl) (by decide) (by decide) dWh_cut_36 (by omega) (by omega) (by omega) (by omega) (by omega) (fun _ _ _ => rfl) (fun H locs hP hD hS => ?_)
  have hP : va_P (dC, dI) vwCl (wWh dA a g (cpI F F (min (d9 / 9) u) 0 ((u - (min (d9 / 9) u)))) (u - (min (d9 / 9) u)) []) H := hP
  have hD : va_D A (wWh dA a g (cpI F F (min (d9 / 9) u) 0 ((u - (min (d9 / 9) u)))) (u - (min (d9 / 9) u)) []) := hD
  refine lv_aload_n hx hb dWh_cut_39 rfl (lv_at hl 1 rfl) ?_
  refine va_gets hx hb hX.2.2.1 hS hown (hts _ wt3_34) (fun _ h9 => h9) dWh_cut_40 ?_
  refine lv_iload_n hx hb dWh_cut_43 rfl (lv_at hl 2 rfl) ?_
  refine lv_bipush (v := iI 9) hx hb dWh_cut_44 (by decide) ?_
  refine iv_irem hx hb dWh_cut_46 (by omega) ⟨by omega, by omega⟩ (by omega) ⟨by decide, by decide⟩ ?_
  have hp8 := p10_8 (i := d9 % 9) (by omega) (by omega)
  refine va_ti (v := .int (iI (PW 10 (d9 % 9)))) hx hb hX.2.2.2.1 hS (iI_vp (by omega) (by omega) (by decide)) (tens_at (by omega) (by omega)) dWh_cut_47 ?_
  refine cv_v (va_runV (C := "MacroReckoner$Whole") (As := [.int (iI (PW 10 (d9 % 9)))]) (rest := []) ⟨hx, hb, hml, hown, hts⟩ (cWh_divideBySmall l dC dI dA a g ((cpI F F (min (d9 / 9) u) 0 ((u - (min (d9 / 9) u))))) ((u - (min (d9 / 9) u))) (N / PW 1000000000 (min (d9 / 9) u)) (PW 10 (d9 % 9)) (by exact cut_e hW (by omega) (by omega)) (by omega) H.size) (cwV 1 hts (gdV wt3_118 wt3_119 wt3_120 wt1_5 wt3_121) rfl rfl rfl ⟨rfl, by decide, by decide, by decide +kernel⟩ ⟨by decide, by decide⟩) (preV (q := ("MacroReckoner$Whole", TWh, 2)) hK hP hD hS hA XN_ok trivial [0, 1] rfl rfl 0 rfl rfl) rfl rfl hl.1 rfl (lv_room (Nat.le_of_ble_eq_true rfl)) dWh_cut_48 ⟨Nat.zero_le _, Nat.zero_le _⟩) hP hD hS hA [0, 1] [] rfl (fun v_ => wWh dA a g v_.1 v_.2 []) (fun _ => rfl) ([] : va_W) rfl (fun _ => rfl) [a, g] rfl (fun _ => rfl) (fun _ => rfl) (fun u_ H locs hq48 hP hD hS => ?_)
  obtain ⟨F1_48, u1_48⟩ := u_
  have hP : va_P (dC, dI) vwCl (wWh dA a g F1_48 u1_48 []) H := hP
  have hD : va_D A (wWh dA a g F1_48 u1_48 []) := hD
  have hq48 : WR F1_48 u1_48 ((N / PW 1000000000 (min (d9 / 9) u)) / (PW 10 (d9 % 9))) := hq48
  exact rt_v hx hb hr hlocks hK hS dWh_cut_51 (F1_48, u1_48) hP hD (show WR F1_48 u1_48 (N / PW 10 d9) from by rw [← cut_f hW hd.1]; exact hq48)

theorem dWh_becomePowerOfTen_0 : decode prog_7_method_9_code 0 = .ok (.aload_n 0, 1) := by decide +kernel
theorem dWh_becomePowerOfTen_1 : decode prog_7_method_9_code 1 = .ok (.iconst 1, 1) := by decide +kernel
theorem dWh_becomePowerOfTen_2 : decode prog_7_method_9_code 2 = .ok (.invokevirtual 26, 3) := by decide +kernel
theorem dWh_becomePowerOfTen_5 : decode prog_7_method_9_code 5 = .ok (.aload_n 0, 1) := by decide +kernel
theorem dWh_becomePowerOfTen_6 : decode prog_7_method_9_code 6 = .ok (.iload_n 1, 1) := by decide +kernel
theorem dWh_becomePowerOfTen_7 : decode prog_7_method_9_code 7 = .ok (.invokevirtual 30, 3) := by decide +kernel
theorem dWh_becomePowerOfTen_10 : decode prog_7_method_9_code 10 = .ok (.return_, 1) := by decide +kernel
abbrev qWh_becomePowerOfTen (dC : Nat → ClassId) (dI : Nat → Nat → Nat) (dA : Nat → ClassId) (dS : Nat → Nat) (a : Nat) (g : Nat) (F : Int → Int) (u : Int) (d9 : Int) (A : Nat → Prop) : Array Value → State → Outcome → State → Prop := QV (dC, dI) vwCl (tyA dA) (fun (v_ : (Int → Int) × Int) => WR v_.1 v_.2 (PW 10 d9)) (fun (v_ : (Int → Int) × Int) => wWh dA a g v_.1 v_.2 []) A
abbrev rmWh_becomePowerOfTen : Room := { frames := 2, cells := 0, slots := 0, locals := 83 }
set_option maxRecDepth 100000 in
set_option maxHeartbeats 1000000 in
theorem cWh_becomePowerOfTen (l : Launch) (dC : Nat → ClassId) (dI : Nat → Nat → Nat) (dA : Nat → ClassId) (dS : Nat → Nat) (a : Nat) (g : Nat) (F : Int → Int) (u : Int) (d9 : Int) (hd : 0 ≤ d9 ∧ d9 ≤ 270) (sz : Nat) : Met l yWh_becomePowerOfTen wsWh_becomePowerOfTen rmWh_becomePowerOfTen (PC (dC, dI) vwCl (tyA dA) (XC dS) [.ref a, .int (iI d9)] (wWh dA a g F u []) sz) (qWh_becomePowerOfTen dC dI dA dS a g F u d9 (va_A (wWh dA a g F u []) sz)) 0 0 (va_A (wWh dA a g F u []) sz) := by
  refine met_of (cc := prog_7_method_9_code) (maxL := 2) (ret := none) (Qc := qWh_becomePowerOfTen dC dI dA dS a g F u d9) (XC_ok dS) (by decide) rfl (Nat.le_of_ble_eq_true rfl) ?_
  intro p e s m below meth c ls A hx hb hr hml hown hts hlocks hnm hK hP hD hA hX hS hl
  have hl : lv_has ls 2 [(0, .ref a), (1, .int (iI d9))] := hl
  have hown : s.vm.findClass "MacroReckoner$Whole" = some m.cls := hown
  obtain ⟨H, hH⟩ : ∃ H : Heap, H = s.heap := ⟨_, rfl⟩
  obtain ⟨locs, hlo⟩ : ∃ L : List Loc, L = [] := ⟨_, rfl⟩
  have hP : va_P (dC, dI) vwCl (wWh dA a g F u []) H := hH ▸ hP
  have hS : va_S A s.heap H locs := by rw [hH, hlo]; exact hS
  suffices hgo : W p l e rmWh_becomePowerOfTen s m [.ref a, .int (iI d9)].toArray below meth c H locs 0 0 (MQ below (qWh_becomePowerOfTen dC dI dA dS a g F u d9 A) [.ref a, .int (iI d9)].toArray s 0 0 A) (F0 m 0 ls []) by rw [hH, hlo] at hgo; exact hgo
  clear hH hlo
  refine lv_aload_n hx hb dWh_becomePowerOfTen_0 rfl (lv_at hl 0 rfl) ?_
  refine lv_iconst (v := iI 1) hx hb dWh_becomePowerOfTen_1 rfl ?_
  refine cv_v (va_runV (C := "MacroReckoner$Whole") (As := [.int (iI 1)]) (rest := []) ⟨hx, hb, hml, hown, hts⟩ (cWh_becomeSmall l dC dI dA a g F u 1 (by omega) H.size) (cwV 1 hts (gdV wt3_175 wt3_14 wt3_15 wt1_5 wt3_16) rfl rfl rfl ⟨rfl, by decide, by decide, by decide +kernel⟩ ⟨by decide, by decide⟩) (preV (q := ("MacroReckoner$Whole", TWh, 2)) hK hP hD hS hA XN_ok trivial [0, 1] rfl rfl 0 rfl rfl) rfl rfl hl.1 rfl (lv_room (Nat.le_of_ble_eq_true rfl)) dWh_becomePowerOfTen_2 ⟨Nat.zero_le _, Nat.zero_le _⟩) hP hD hS hA [0, 1] [] rfl (fun v_ => wWh dA a g v_.1 v_.2 []) (fun _ => rfl) ([] : va_W) rfl (fun _ => rfl) [a, g] rfl (fun _ => rfl) (fun _ => rfl) (fun u_ H locs hq2 hP hD hS => ?_)
  obtain ⟨F2, u2⟩ := u_
  have hP : va_P (dC, dI) vwCl (wWh dA a g F2 u2 []) H := hP
  have hD : va_D A (wWh dA a g F2 u2 []) := hD
  have hq2 : WR F2 u2 1 := hq2
  refine lv_aload_n hx hb dWh_becomePowerOfTen_5 rfl (lv_at hl 0 rfl) ?_
  refine lv_iload_n hx hb dWh_becomePowerOfTen_6 rfl (lv_at hl 1 rfl) ?_
  refine cv_v (va_runV (C := "MacroReckoner$Whole") (As := [.int (iI d9)]) (rest := []) ⟨hx, hb, hml, hown, hts⟩ (cWh_widen l dC dI dA dS a g F2 u2 1 d9 (by exact hq2) (by omega) (by rw [Int.one_mul, PW_B (by decide)]; exact PW_lt (by decide) hd.1 (by omega)) H.size) (cwV 1 hts (gdV wt3_176 wt3_73 wt3_74 wt1_5 wt3_75) rfl rfl rfl ⟨rfl, by decide, by decide, by decide +kernel⟩ ⟨by decide, by decide⟩) (preV (q := ("MacroReckoner$Whole", TWh, 2)) hK hP hD hS hA (XC_ok dS) hX [0, 1] rfl rfl 0 rfl rfl) rfl rfl hl.1 rfl (lv_room (Nat.le_of_ble_eq_true rfl)) dWh_becomePowerOfTen_7 ⟨Nat.zero_le _, Nat.zero_le _⟩) hP hD hS hA [0, 1] [] rfl (fun v_ => wWh dA a g v_.1 v_.2 []) (fun _ => rfl) ([] : va_W) rfl (fun _ => rfl) [a, g] rfl (fun _ => rfl) (fun _ => rfl) (fun u_ H locs hq7 hP hD hS => ?_)
  obtain ⟨F1_7, u1_7⟩ := u_
  have hP : va_P (dC, dI) vwCl (wWh dA a g F1_7 u1_7 []) H := hP
  have hD : va_D A (wWh dA a g F1_7 u1_7 []) := hD
  have hq7 : WR F1_7 u1_7 (1 * PW 10 d9) := hq7
  exact rt_v hx hb hr hlocks hK hS dWh_becomePowerOfTen_10 (F1_7, u1_7) hP hD (show WR F1_7 u1_7 (PW 10 d9) from by have := hq7; rw [Int.one_mul] at this; exact this)
