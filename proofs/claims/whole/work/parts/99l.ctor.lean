theorem nM_0 {s : State} (h : ∀ q ∈ nestM, va_Nw (.methodLinkNest q.1 q.2.1 q.2.2.1 q.2.2.2) s) : va_Nw (.methodLinkNest "MacroReckoner" 28 ⟨"MacroReckoner$Token", "<init>", "()V"⟩ "MacroReckoner") s := h ("MacroReckoner", 28, ⟨"MacroReckoner$Token", "<init>", "()V"⟩, "MacroReckoner") (List.mem_of_getElem? (i := 0) rfl)
theorem nM_1 {s : State} (h : ∀ q ∈ nestM, va_Nw (.methodLinkNest q.1 q.2.1 q.2.2.1 q.2.2.2) s) : va_Nw (.methodLinkNest "MacroReckoner" 48 ⟨"MacroReckoner$Value", "<init>", "()V"⟩ "MacroReckoner") s := h ("MacroReckoner", 48, ⟨"MacroReckoner$Value", "<init>", "()V"⟩, "MacroReckoner") (List.mem_of_getElem? (i := 1) rfl)
theorem nM_2 {s : State} (h : ∀ q ∈ nestM, va_Nw (.methodLinkNest q.1 q.2.1 q.2.2.1 q.2.2.2) s) : va_Nw (.methodLinkNest "MacroReckoner$Value" 17 ⟨"MacroReckoner$Whole", "<init>", "()V"⟩ "MacroReckoner") s := h ("MacroReckoner$Value", 17, ⟨"MacroReckoner$Whole", "<init>", "()V"⟩, "MacroReckoner") (List.mem_of_getElem? (i := 2) rfl)
theorem nM_3 {s : State} (h : ∀ q ∈ nestM, va_Nw (.methodLinkNest q.1 q.2.1 q.2.2.1 q.2.2.2) s) : va_Nw (.methodLinkNest "MacroReckoner$Arithmetic" 11 ⟨"MacroReckoner$Whole", "<init>", "()V"⟩ "MacroReckoner") s := h ("MacroReckoner$Arithmetic", 11, ⟨"MacroReckoner$Whole", "<init>", "()V"⟩, "MacroReckoner") (List.mem_of_getElem? (i := 3) rfl)
theorem nM_4 {s : State} (h : ∀ q ∈ nestM, va_Nw (.methodLinkNest q.1 q.2.1 q.2.2.1 q.2.2.2) s) : va_Nw (.methodLinkNest "MacroReckoner" 64 ⟨"MacroReckoner$Paper", "<init>", "()V"⟩ "MacroReckoner") s := h ("MacroReckoner", 64, ⟨"MacroReckoner$Paper", "<init>", "()V"⟩, "MacroReckoner") (List.mem_of_getElem? (i := 4) rfl)
theorem dWh_init_0 : decode prog_7_method_1_code 0 = .ok (.aload_n 0, 1) := by decide +kernel
theorem dWh_init_1 : decode prog_7_method_1_code 1 = .ok (.invokespecial 1, 3) := by decide +kernel
theorem dWh_init_4 : decode prog_7_method_1_code 4 = .ok (.aload_n 0, 1) := by decide +kernel
theorem dWh_init_5 : decode prog_7_method_1_code 5 = .ok (.bipush 32, 2) := by decide +kernel
theorem dWh_init_7 : decode prog_7_method_1_code 7 = .ok (.newarray .int, 2) := by decide +kernel
theorem dWh_init_9 : decode prog_7_method_1_code 9 = .ok (.putfield 9, 3) := by decide +kernel
theorem dWh_init_12 : decode prog_7_method_1_code 12 = .ok (.aload_n 0, 1) := by decide +kernel
theorem dWh_init_13 : decode prog_7_method_1_code 13 = .ok (.iconst 0, 1) := by decide +kernel
theorem dWh_init_14 : decode prog_7_method_1_code 14 = .ok (.putfield 13, 3) := by decide +kernel
theorem dWh_init_17 : decode prog_7_method_1_code 17 = .ok (.return_, 1) := by decide +kernel
abbrev rmWh_init : Room := { frames := 1, cells := 1, slots := 32, locals := 12 }
set_option maxRecDepth 100000 in
set_option maxHeartbeats 4000000 in
theorem cWh_init (l : Launch) (dC : Nat → ClassId) (dI : Nat → Nat → Nat) (dA : Nat → ClassId) (x : Nat)  (sz : Nat) (hz0 : sz = x + 1) : Met l yWh_init wsWh_init rmWh_init (PC (dC, dI) vwCl (tyA dA) XY [.ref x] [(x, .inr (5, [.null, .int (iI 0)]))] sz) (QN (dC, dI) vwCl (tyA dA) ([(x, .inr (5, [.ref (x + 1), .int (iI 0)])), (x + 1, .inl (dA 0, 32, .inl (arI (fun _ => 0))))] : va_W) (va_A [(x, .inr (5, [.null, .int (iI 0)]))] sz)) 1 32 (va_A [(x, .inr (5, [.null, .int (iI 0)]))] sz) := by
  refine met_ofN (cc := prog_7_method_1_code) (maxL := 1) (ret := none) (Qc := fun A => QN (dC, dI) vwCl (tyA dA) ([(x, .inr (5, [.ref (x + 1), .int (iI 0)])), (x + 1, .inl (dA 0, 32, .inl (arI (fun _ => 0))))] : va_W) A) (by decide) rfl (Nat.le_of_ble_eq_true rfl) ?_
  intro p e s m below meth c ls A hx hb hr hml hown hts hlocks hnm hK hP hD hA hX hS hl hsz
  have hl : lv_has ls 1 [(0, .ref x)] := hl
  have hown : s.vm.findClass "MacroReckoner$Whole" = some m.cls := hown
  have hty := tyI hK
  have hsz : s.heap.size = x + 1 := hsz.trans hz0
  obtain ⟨H, hH⟩ : ∃ H : Heap, H = s.heap := ⟨_, rfl⟩
  obtain ⟨locs, hlo⟩ : ∃ L : List Loc, L = [] := ⟨_, rfl⟩
  have hP : va_P (dC, dI) vwCl ([(x, .inr (5, [.null, .int (iI 0)]))] : va_W) H := hH ▸ hP
  have hS : va_S A s.heap H locs := by rw [hH, hlo]; exact hS
  suffices hgo : W p l e rmWh_init s m [.ref x].toArray below meth c H locs 0 0 (MQ below (QN (dC, dI) vwCl (tyA dA) ([(x, .inr (5, [.ref (x + 1), .int (iI 0)])), (x + 1, .inl (dA 0, 32, .inl (arI (fun _ => 0))))] : va_W) A) [.ref x].toArray s 1 32 A) (F0 m 0 ls []) by rw [hH, hlo] at hgo; exact hgo
  clear hH hlo
  refine lv_aload_n hx hb dWh_init_0 rfl (lv_at hl 0 rfl) ?_
  refine W.objInit hx hb hown (hts _ wt1_91) (hts _ wt1_26) (hts _ wt1_27) rfl (by rw [hml]; exact hl.1) rfl dWh_init_1 (Nat.le_of_ble_eq_true rfl) (Nat.le_of_ble_eq_true rfl) ?_
  refine W.eq (g2 := F0 m 4 ls []) rfl ?_
  refine lv_aload_n hx hb dWh_init_4 rfl (lv_at hl 0 rfl) ?_
  refine lv_bipush (v := iI 32) hx hb dWh_init_5 (by decide) ?_
  refine W_sz (n := x + 1) (by omega) (by have h9 : x < H.size := (hP 0 _ rfl).lt; omega) (fun hz => ?_)
  refine va_newaH (atype := .int) (n := iI 32) (N' := 32) (a0 := (32, .inl (arI (fun _ => 0)))) (ty := .int) hx hb (hts _ wt1_99) rfl hP hD hS hA (zar rfl) hty.1 (iIn (n := 32) (by decide)).1 (iIn (n := 32) (by decide)).2 (by show 32 * 4 ≤ 536870912; omega) (by show _ ≤ 1; omega) (by show _ ≤ 32; omega) dWh_init_7 hz (fun H hP hD hS hz => ?_)
  have hP : va_P (dC, dI) vwCl ([(x, .inr (5, [.null, .int (iI 0)])), (x + 1, .inl (dA 0, 32, .inl (arI (fun _ => 0))))] : va_W) H := hP
  have hD : va_D A ([(x, .inr (5, [.null, .int (iI 0)])), (x + 1, .inl (dA 0, 32, .inl (arI (fun _ => 0))))] : va_W) := hD
  refine va_putF (D := (dC, dI)) (ci := 5) (v := .ref (x + 1)) (ty := (.array .int)) (C := "MacroReckoner$Whole") (T := TWh) (N := 2) hx hb hts inWh tyWh tyWh_ok nmWh hown hK hP hD hS 0 rfl rfl 0 (by decide) (hts _ wt1_92) (fun _ h9 => h9) rfl hnm rfl (by decide +kernel) rfl rfl (Nat.le_of_ble_eq_true rfl) dWh_init_9 (fun H locs hP hD hS => ?_)
  have hP : va_P (dC, dI) vwCl ([(x, .inr (5, [.ref (x + 1), .int (iI 0)])), (x + 1, .inl (dA 0, 32, .inl (arI (fun _ => 0))))] : va_W) H := hP
  have hD : va_D A ([(x, .inr (5, [.ref (x + 1), .int (iI 0)])), (x + 1, .inl (dA 0, 32, .inl (arI (fun _ => 0))))] : va_W) := hD
  refine lv_aload_n hx hb dWh_init_12 rfl (lv_at hl 0 rfl) ?_
  refine lv_iconst (v := iI 0) hx hb dWh_init_13 rfl ?_
  refine va_put (D := (dC, dI)) (ci := 5) (v := .int (iI 0)) (ty := .int) (C := "MacroReckoner$Whole") (T := TWh) (N := 2) hx hb hts inWh tyWh tyWh_ok nmWh hown hK hP hD hS 0 rfl rfl 1 (by decide) (hts _ wt1_93) (fun _ h9 => h9) rfl (by decide +kernel) rfl rfl (Nat.le_of_ble_eq_true rfl) dWh_init_14 (fun H locs hP hD hS => ?_)
  have hP : va_P (dC, dI) vwCl ([(x, .inr (5, [.ref (x + 1), .int (iI 0)])), (x + 1, .inl (dA 0, 32, .inl (arI (fun _ => 0))))] : va_W) H := hP
  have hD : va_D A ([(x, .inr (5, [.ref (x + 1), .int (iI 0)])), (x + 1, .inl (dA 0, 32, .inl (arI (fun _ => 0))))] : va_W) := hD
  exact rt_v hx hb hr hlocks hK hS dWh_init_17 () hP hD trivial

theorem dVa_init_0 : decode prog_6_method_1_code 0 = .ok (.aload_n 0, 1) := by decide +kernel
theorem dVa_init_1 : decode prog_6_method_1_code 1 = .ok (.invokespecial 3, 3) := by decide +kernel
theorem dVa_init_4 : decode prog_6_method_1_code 4 = .ok (.aload_n 0, 1) := by decide +kernel
theorem dVa_init_5 : decode prog_6_method_1_code 5 = .ok (.iconst 0, 1) := by decide +kernel
theorem dVa_init_6 : decode prog_6_method_1_code 6 = .ok (.putfield 9, 3) := by decide +kernel
theorem dVa_init_9 : decode prog_6_method_1_code 9 = .ok (.aload_n 0, 1) := by decide +kernel
theorem dVa_init_10 : decode prog_6_method_1_code 10 = .ok (.new 15, 3) := by decide +kernel
theorem dVa_init_13 : decode prog_6_method_1_code 13 = .ok (.dup, 1) := by decide +kernel
theorem dVa_init_14 : decode prog_6_method_1_code 14 = .ok (.invokespecial 17, 3) := by decide +kernel
theorem dVa_init_17 : decode prog_6_method_1_code 17 = .ok (.putfield 18, 3) := by decide +kernel
theorem dVa_init_20 : decode prog_6_method_1_code 20 = .ok (.aload_n 0, 1) := by decide +kernel
theorem dVa_init_21 : decode prog_6_method_1_code 21 = .ok (.iconst 0, 1) := by decide +kernel
theorem dVa_init_22 : decode prog_6_method_1_code 22 = .ok (.putfield 22, 3) := by decide +kernel
theorem dVa_init_25 : decode prog_6_method_1_code 25 = .ok (.aload_n 0, 1) := by decide +kernel
theorem dVa_init_26 : decode prog_6_method_1_code 26 = .ok (.iconst 0, 1) := by decide +kernel
theorem dVa_init_27 : decode prog_6_method_1_code 27 = .ok (.putfield 25, 3) := by decide +kernel
theorem dVa_init_30 : decode prog_6_method_1_code 30 = .ok (.aload_n 0, 1) := by decide +kernel
theorem dVa_init_31 : decode prog_6_method_1_code 31 = .ok (.bipush 60, 2) := by decide +kernel
theorem dVa_init_33 : decode prog_6_method_1_code 33 = .ok (.newarray .char, 2) := by decide +kernel
theorem dVa_init_35 : decode prog_6_method_1_code 35 = .ok (.putfield 29, 3) := by decide +kernel
theorem dVa_init_38 : decode prog_6_method_1_code 38 = .ok (.aload_n 0, 1) := by decide +kernel
theorem dVa_init_39 : decode prog_6_method_1_code 39 = .ok (.iconst 0, 1) := by decide +kernel
theorem dVa_init_40 : decode prog_6_method_1_code 40 = .ok (.putfield 33, 3) := by decide +kernel
theorem dVa_init_43 : decode prog_6_method_1_code 43 = .ok (.return_, 1) := by decide +kernel
abbrev rmVa_init : Room := { frames := 2, cells := 3, slots := 94, locals := 32 }
set_option maxRecDepth 100000 in
set_option maxHeartbeats 4000000 in
theorem cVa_init (l : Launch) (dC : Nat → ClassId) (dI : Nat → Nat → Nat) (dA : Nat → ClassId) (x : Nat)  (sz : Nat) (hz0 : sz = x + 1) : Met l yVa_init wsVa_init rmVa_init (PC (dC, dI) vwCl (tyA dA) XY [.ref x] [(x, .inr (4, [.int (iI 0), .null, .int (iI 0), .int (iI 0), .null, .int (iI 0)]))] sz) (QN (dC, dI) vwCl (tyA dA) ([(x, .inr (4, [.int (iI 0), .ref (x + 1), .int (iI 0), .int (iI 0), .ref (x + 3), .int (iI 0)])), (x + 1, .inr (5, [.ref (x + 2), .int (iI 0)])), (x + 2, .inl (dA 0, 32, .inl (arI (fun _ => 0)))), (x + 3, .inl (dA 1, 60, .inl (arI (fun _ => 0))))] : va_W) (va_A [(x, .inr (4, [.int (iI 0), .null, .int (iI 0), .int (iI 0), .null, .int (iI 0)]))] sz)) 3 94 (va_A [(x, .inr (4, [.int (iI 0), .null, .int (iI 0), .int (iI 0), .null, .int (iI 0)]))] sz) := by
  refine met_ofN (cc := prog_6_method_1_code) (maxL := 1) (ret := none) (Qc := fun A => QN (dC, dI) vwCl (tyA dA) ([(x, .inr (4, [.int (iI 0), .ref (x + 1), .int (iI 0), .int (iI 0), .ref (x + 3), .int (iI 0)])), (x + 1, .inr (5, [.ref (x + 2), .int (iI 0)])), (x + 2, .inl (dA 0, 32, .inl (arI (fun _ => 0)))), (x + 3, .inl (dA 1, 60, .inl (arI (fun _ => 0))))] : va_W) A) (by decide) rfl (Nat.le_of_ble_eq_true rfl) ?_
  intro p e s m below meth c ls A hx hb hr hml hown hts hlocks hnm hK hP hD hA hX hS hl hsz
  have hl : lv_has ls 1 [(0, .ref x)] := hl
  have hown : s.vm.findClass "MacroReckoner$Value" = some m.cls := hown
  have hty := tyI hK
  have hsz : s.heap.size = x + 1 := hsz.trans hz0
  obtain ⟨H, hH⟩ : ∃ H : Heap, H = s.heap := ⟨_, rfl⟩
  obtain ⟨locs, hlo⟩ : ∃ L : List Loc, L = [] := ⟨_, rfl⟩
  have hP : va_P (dC, dI) vwCl ([(x, .inr (4, [.int (iI 0), .null, .int (iI 0), .int (iI 0), .null, .int (iI 0)]))] : va_W) H := hH ▸ hP
  have hS : va_S A s.heap H locs := by rw [hH, hlo]; exact hS
  suffices hgo : W p l e rmVa_init s m [.ref x].toArray below meth c H locs 0 0 (MQ below (QN (dC, dI) vwCl (tyA dA) ([(x, .inr (4, [.int (iI 0), .ref (x + 1), .int (iI 0), .int (iI 0), .ref (x + 3), .int (iI 0)])), (x + 1, .inr (5, [.ref (x + 2), .int (iI 0)])), (x + 2, .inl (dA 0, 32, .inl (arI (fun _ => 0)))), (x + 3, .inl (dA 1, 60, .inl (arI (fun _ => 0))))] : va_W) A) [.ref x].toArray s 3 94 A) (F0 m 0 ls []) by rw [hH, hlo] at hgo; exact hgo
  clear hH hlo
  refine lv_aload_n hx hb dVa_init_0 rfl (lv_at hl 0 rfl) ?_
  refine W.objInit hx hb hown (hts _ wt1_85) (hts _ wt1_26) (hts _ wt1_27) rfl (by rw [hml]; exact hl.1) rfl dVa_init_1 (Nat.le_of_ble_eq_true rfl) (Nat.le_of_ble_eq_true rfl) ?_
  refine W.eq (g2 := F0 m 4 ls []) rfl ?_
  refine lv_aload_n hx hb dVa_init_4 rfl (lv_at hl 0 rfl) ?_
  refine lv_iconst (v := iI 0) hx hb dVa_init_5 rfl ?_
  refine va_put (D := (dC, dI)) (ci := 4) (v := .int (iI 0)) (ty := .boolean) (C := "MacroReckoner$Value") (T := TVa) (N := 6) hx hb hts inVa tyVa tyVa_ok nmVa hown hK hP hD hS 0 rfl rfl 0 (by decide) (hts _ wt1_100) (fun _ h9 => h9) rfl (by decide +kernel) (by decide +kernel) (by decide +kernel) (Nat.le_of_ble_eq_true rfl) dVa_init_6 (fun H locs hP hD hS => ?_)
  have hP : va_P (dC, dI) vwCl ([(x, .inr (4, [.int (iI 0), .null, .int (iI 0), .int (iI 0), .null, .int (iI 0)]))] : va_W) H := hP
  have hD : va_D A ([(x, .inr (4, [.int (iI 0), .null, .int (iI 0), .int (iI 0), .null, .int (iI 0)]))] : va_W) := hD
  refine lv_aload_n hx hb dVa_init_9 rfl (lv_at hl 0 rfl) ?_
  refine W_sz (n := x + 1) (by omega) (by have h9 : x < H.size := (hP 0 _ rfl).lt; omega) (fun hz => ?_)
  refine va_newH (ci := 5) (fs := [.null, .int (iI 0)]) (C := "MacroReckoner$Whole") (T := TWh) (N := 2) hx hb hts inWh tyWh tyWh_ok hown (hts _ wt1_86) (hts _ wt1_87) (hts _ wt1_5) hK hP hD hS hA rfl (by decide +kernel) (by show _ ≤ 3; omega) (by show _ ≤ 94; omega) dVa_init_10 hz (fun H hP hD hS hz => ?_)
  have hP : va_P (dC, dI) vwCl ([(x, .inr (4, [.int (iI 0), .null, .int (iI 0), .int (iI 0), .null, .int (iI 0)])), (x + 1, .inr (5, [.null, .int (iI 0)]))] : va_W) H := hP
  have hD : va_D A ([(x, .inr (4, [.int (iI 0), .null, .int (iI 0), .int (iI 0), .null, .int (iI 0)])), (x + 1, .inr (5, [.null, .int (iI 0)]))] : va_W) := hD
  refine lv_dup hx hb dVa_init_13 rfl ?_
  refine cvN (wr := [(x, .inr (4, [.int (iI 0), .null, .int (iI 0), .int (iI 0), .null, .int (iI 0)]))]) (wc := [(x + 1, .inr (5, [.null, .int (iI 0)]))]) (va_runIN (As := []) (rest := [.ref (x + 1), .ref x]) ⟨hx, hb, hml, hown, hts⟩ (cWh_init l dC dI dA (x + 1)  H.size hz) ⟨va_cnB (host := "MacroReckoner") 0 hts (gd wt1_90) rfl rfl rfl (nM_2 hX.1) (hts _ wt1_5) ⟨by decide, by decide, by decide +kernel⟩ ⟨by decide, by decide⟩, rfl, hts _ wt1_89⟩ (preE (wr := [(x, .inr (4, [.int (iI 0), .null, .int (iI 0), .int (iI 0), .null, .int (iI 0)]))]) hK hP hD hS hA XY_ok hX) rfl rfl hl.1 rfl (lv_room (Nat.le_of_ble_eq_true rfl)) dVa_init_14 ⟨by show _ ≤ 3; omega, by show _ ≤ 94; omega⟩) hP hD hS hA (fun H locs hP hD hS => ?_)
  have hP : va_P (dC, dI) vwCl ([(x, .inr (4, [.int (iI 0), .null, .int (iI 0), .int (iI 0), .null, .int (iI 0)])), (x + 1, .inr (5, [.ref (x + 2), .int (iI 0)])), (x + 2, .inl (dA 0, 32, .inl (arI (fun _ => 0))))] : va_W) H := hP
  have hD : va_D A ([(x, .inr (4, [.int (iI 0), .null, .int (iI 0), .int (iI 0), .null, .int (iI 0)])), (x + 1, .inr (5, [.ref (x + 2), .int (iI 0)])), (x + 2, .inl (dA 0, 32, .inl (arI (fun _ => 0))))] : va_W) := hD
  refine va_putF (D := (dC, dI)) (ci := 4) (v := .ref (x + 1)) (ty := (.object "MacroReckoner$Whole")) (C := "MacroReckoner$Value") (T := TVa) (N := 6) hx hb hts inVa tyVa tyVa_ok nmVa hown hK hP hD hS 0 rfl rfl 1 (by decide) (hts _ wt1_103) (fun _ h9 => h9) rfl hnm rfl (by decide +kernel) rfl rfl (Nat.le_of_ble_eq_true rfl) dVa_init_17 (fun H locs hP hD hS => ?_)
  have hP : va_P (dC, dI) vwCl ([(x, .inr (4, [.int (iI 0), .ref (x + 1), .int (iI 0), .int (iI 0), .null, .int (iI 0)])), (x + 1, .inr (5, [.ref (x + 2), .int (iI 0)])), (x + 2, .inl (dA 0, 32, .inl (arI (fun _ => 0))))] : va_W) H := hP
  have hD : va_D A ([(x, .inr (4, [.int (iI 0), .ref (x + 1), .int (iI 0), .int (iI 0), .null, .int (iI 0)])), (x + 1, .inr (5, [.ref (x + 2), .int (iI 0)])), (x + 2, .inl (dA 0, 32, .inl (arI (fun _ => 0))))] : va_W) := hD
  refine lv_aload_n hx hb dVa_init_20 rfl (lv_at hl 0 rfl) ?_
  refine lv_iconst (v := iI 0) hx hb dVa_init_21 rfl ?_
  refine va_put (D := (dC, dI)) (ci := 4) (v := .int (iI 0)) (ty := .boolean) (C := "MacroReckoner$Value") (T := TVa) (N := 6) hx hb hts inVa tyVa tyVa_ok nmVa hown hK hP hD hS 0 rfl rfl 2 (by decide) (hts _ wt1_107) (fun _ h9 => h9) rfl (by decide +kernel) (by decide +kernel) (by decide +kernel) (Nat.le_of_ble_eq_true rfl) dVa_init_22 (fun H locs hP hD hS => ?_)
  have hP : va_P (dC, dI) vwCl ([(x, .inr (4, [.int (iI 0), .ref (x + 1), .int (iI 0), .int (iI 0), .null, .int (iI 0)])), (x + 1, .inr (5, [.ref (x + 2), .int (iI 0)])), (x + 2, .inl (dA 0, 32, .inl (arI (fun _ => 0))))] : va_W) H := hP
  have hD : va_D A ([(x, .inr (4, [.int (iI 0), .ref (x + 1), .int (iI 0), .int (iI 0), .null, .int (iI 0)])), (x + 1, .inr (5, [.ref (x + 2), .int (iI 0)])), (x + 2, .inl (dA 0, 32, .inl (arI (fun _ => 0))))] : va_W) := hD
  refine lv_aload_n hx hb dVa_init_25 rfl (lv_at hl 0 rfl) ?_
  refine lv_iconst (v := iI 0) hx hb dVa_init_26 rfl ?_
  refine va_put (D := (dC, dI)) (ci := 4) (v := .int (iI 0)) (ty := .int) (C := "MacroReckoner$Value") (T := TVa) (N := 6) hx hb hts inVa tyVa tyVa_ok nmVa hown hK hP hD hS 0 rfl rfl 3 (by decide) (hts _ wt1_111) (fun _ h9 => h9) rfl (by decide +kernel) rfl rfl (Nat.le_of_ble_eq_true rfl) dVa_init_27 (fun H locs hP hD hS => ?_)
  have hP : va_P (dC, dI) vwCl ([(x, .inr (4, [.int (iI 0), .ref (x + 1), .int (iI 0), .int (iI 0), .null, .int (iI 0)])), (x + 1, .inr (5, [.ref (x + 2), .int (iI 0)])), (x + 2, .inl (dA 0, 32, .inl (arI (fun _ => 0))))] : va_W) H := hP
  have hD : va_D A ([(x, .inr (4, [.int (iI 0), .ref (x + 1), .int (iI 0), .int (iI 0), .null, .int (iI 0)])), (x + 1, .inr (5, [.ref (x + 2), .int (iI 0)])), (x + 2, .inl (dA 0, 32, .inl (arI (fun _ => 0))))] : va_W) := hD
  refine lv_aload_n hx hb dVa_init_30 rfl (lv_at hl 0 rfl) ?_
  refine lv_bipush (v := iI 60) hx hb dVa_init_31 (by decide) ?_
  refine W_sz (n := x + 3) (by omega) (by have h9 : x + 2 < H.size := (hP 2 _ rfl).lt; omega) (fun hz => ?_)
  refine va_newaH (atype := .char) (n := iI 60) (N' := 60) (a0 := (60, .inl (arI (fun _ => 0)))) (ty := .char) hx hb (hts _ wt1_47) rfl hP hD hS hA (zar rfl) hty.2.1 (iIn (n := 60) (by decide)).1 (iIn (n := 60) (by decide)).2 (by show 60 * 2 ≤ 536870912; omega) (by show _ ≤ 3; omega) (by show _ ≤ 94; omega) dVa_init_33 hz (fun H hP hD hS hz => ?_)
  have hP : va_P (dC, dI) vwCl ([(x, .inr (4, [.int (iI 0), .ref (x + 1), .int (iI 0), .int (iI 0), .null, .int (iI 0)])), (x + 1, .inr (5, [.ref (x + 2), .int (iI 0)])), (x + 2, .inl (dA 0, 32, .inl (arI (fun _ => 0)))), (x + 3, .inl (dA 1, 60, .inl (arI (fun _ => 0))))] : va_W) H := hP
  have hD : va_D A ([(x, .inr (4, [.int (iI 0), .ref (x + 1), .int (iI 0), .int (iI 0), .null, .int (iI 0)])), (x + 1, .inr (5, [.ref (x + 2), .int (iI 0)])), (x + 2, .inl (dA 0, 32, .inl (arI (fun _ => 0)))), (x + 3, .inl (dA 1, 60, .inl (arI (fun _ => 0))))] : va_W) := hD
  refine va_putF (D := (dC, dI)) (ci := 4) (v := .ref (x + 3)) (ty := (.array .char)) (C := "MacroReckoner$Value") (T := TVa) (N := 6) hx hb hts inVa tyVa tyVa_ok nmVa hown hK hP hD hS 0 rfl rfl 4 (by decide) (hts _ wt1_115) (fun _ h9 => h9) rfl hnm rfl (by decide +kernel) rfl rfl (Nat.le_of_ble_eq_true rfl) dVa_init_35 (fun H locs hP hD hS => ?_)
  have hP : va_P (dC, dI) vwCl ([(x, .inr (4, [.int (iI 0), .ref (x + 1), .int (iI 0), .int (iI 0), .ref (x + 3), .int (iI 0)])), (x + 1, .inr (5, [.ref (x + 2), .int (iI 0)])), (x + 2, .inl (dA 0, 32, .inl (arI (fun _ => 0)))), (x + 3, .inl (dA 1, 60, .inl (arI (fun _ => 0))))] : va_W) H := hP
  have hD : va_D A ([(x, .inr (4, [.int (iI 0), .ref (x + 1), .int (iI 0), .int (iI 0), .ref (x + 3), .int (iI 0)])), (x + 1, .inr (5, [.ref (x + 2), .int (iI 0)])), (x + 2, .inl (dA 0, 32, .inl (arI (fun _ => 0)))), (x + 3, .inl (dA 1, 60, .inl (arI (fun _ => 0))))] : va_W) := hD
  refine lv_aload_n hx hb dVa_init_38 rfl (lv_at hl 0 rfl) ?_
  refine lv_iconst (v := iI 0) hx hb dVa_init_39 rfl ?_
  refine va_put (D := (dC, dI)) (ci := 4) (v := .int (iI 0)) (ty := .int) (C := "MacroReckoner$Value") (T := TVa) (N := 6) hx hb hts inVa tyVa tyVa_ok nmVa hown hK hP hD hS 0 rfl rfl 5 (by decide) (hts _ wt1_118) (fun _ h9 => h9) rfl (by decide +kernel) rfl rfl (Nat.le_of_ble_eq_true rfl) dVa_init_40 (fun H locs hP hD hS => ?_)
  have hP : va_P (dC, dI) vwCl ([(x, .inr (4, [.int (iI 0), .ref (x + 1), .int (iI 0), .int (iI 0), .ref (x + 3), .int (iI 0)])), (x + 1, .inr (5, [.ref (x + 2), .int (iI 0)])), (x + 2, .inl (dA 0, 32, .inl (arI (fun _ => 0)))), (x + 3, .inl (dA 1, 60, .inl (arI (fun _ => 0))))] : va_W) H := hP
  have hD : va_D A ([(x, .inr (4, [.int (iI 0), .ref (x + 1), .int (iI 0), .int (iI 0), .ref (x + 3), .int (iI 0)])), (x + 1, .inr (5, [.ref (x + 2), .int (iI 0)])), (x + 2, .inl (dA 0, 32, .inl (arI (fun _ => 0)))), (x + 3, .inl (dA 1, 60, .inl (arI (fun _ => 0))))] : va_W) := hD
  exact rt_v hx hb hr hlocks hK hS dVa_init_43 () hP hD trivial

theorem dTa_init_0 : decode prog_4_method_1_code 0 = .ok (.aload_n 0, 1) := by decide +kernel
theorem dTa_init_1 : decode prog_4_method_1_code 1 = .ok (.invokespecial 1, 3) := by decide +kernel
theorem dTa_init_4 : decode prog_4_method_1_code 4 = .ok (.aload_n 0, 1) := by decide +kernel
theorem dTa_init_5 : decode prog_4_method_1_code 5 = .ok (.iconst 0, 1) := by decide +kernel
theorem dTa_init_6 : decode prog_4_method_1_code 6 = .ok (.putfield 7, 3) := by decide +kernel
theorem dTa_init_9 : decode prog_4_method_1_code 9 = .ok (.aload_n 0, 1) := by decide +kernel
theorem dTa_init_10 : decode prog_4_method_1_code 10 = .ok (.iconst 0, 1) := by decide +kernel
theorem dTa_init_11 : decode prog_4_method_1_code 11 = .ok (.putfield 13, 3) := by decide +kernel
theorem dTa_init_14 : decode prog_4_method_1_code 14 = .ok (.aload_n 0, 1) := by decide +kernel
theorem dTa_init_15 : decode prog_4_method_1_code 15 = .ok (.iload_n 1, 1) := by decide +kernel
theorem dTa_init_16 : decode prog_4_method_1_code 16 = .ok (.newarray .char, 2) := by decide +kernel
theorem dTa_init_18 : decode prog_4_method_1_code 18 = .ok (.putfield 16, 3) := by decide +kernel
theorem dTa_init_21 : decode prog_4_method_1_code 21 = .ok (.return_, 1) := by decide +kernel
abbrev rmTa_init_100 : Room := { frames := 1, cells := 1, slots := 100, locals := 12 }
set_option maxRecDepth 100000 in
set_option maxHeartbeats 4000000 in
theorem cTa_init_100 (l : Launch) (dC : Nat → ClassId) (dI : Nat → Nat → Nat) (dA : Nat → ClassId) (x : Nat)  (sz : Nat) (hz0 : sz = x + 1) : Met l yTa_init wsTa_init rmTa_init_100 (PC (dC, dI) vwCl (tyA dA) XY [.ref x, .int (iI 100)] [(x, .inr (2, [.null, .int (iI 0), .int (iI 0)]))] sz) (QN (dC, dI) vwCl (tyA dA) ([(x, .inr (2, [.ref (x + 1), .int (iI 0), .int (iI 0)])), (x + 1, .inl (dA 1, 100, .inl (arI (fun _ => 0))))] : va_W) (va_A [(x, .inr (2, [.null, .int (iI 0), .int (iI 0)]))] sz)) 1 100 (va_A [(x, .inr (2, [.null, .int (iI 0), .int (iI 0)]))] sz) := by
  refine met_ofN (cc := prog_4_method_1_code) (maxL := 2) (ret := none) (Qc := fun A => QN (dC, dI) vwCl (tyA dA) ([(x, .inr (2, [.ref (x + 1), .int (iI 0), .int (iI 0)])), (x + 1, .inl (dA 1, 100, .inl (arI (fun _ => 0))))] : va_W) A) (by decide) rfl (Nat.le_of_ble_eq_true rfl) ?_
  intro p e s m below meth c ls A hx hb hr hml hown hts hlocks hnm hK hP hD hA hX hS hl hsz
  have hl : lv_has ls 2 [(0, .ref x), (1, .int (iI 100))] := hl
  have hown : s.vm.findClass "MacroReckoner$Tape" = some m.cls := hown
  have hty := tyI hK
  have hsz : s.heap.size = x + 1 := hsz.trans hz0
  obtain ⟨H, hH⟩ : ∃ H : Heap, H = s.heap := ⟨_, rfl⟩
  obtain ⟨locs, hlo⟩ : ∃ L : List Loc, L = [] := ⟨_, rfl⟩
  have hP : va_P (dC, dI) vwCl ([(x, .inr (2, [.null, .int (iI 0), .int (iI 0)]))] : va_W) H := hH ▸ hP
  have hS : va_S A s.heap H locs := by rw [hH, hlo]; exact hS
  suffices hgo : W p l e rmTa_init_100 s m [.ref x, .int (iI 100)].toArray below meth c H locs 0 0 (MQ below (QN (dC, dI) vwCl (tyA dA) ([(x, .inr (2, [.ref (x + 1), .int (iI 0), .int (iI 0)])), (x + 1, .inl (dA 1, 100, .inl (arI (fun _ => 0))))] : va_W) A) [.ref x, .int (iI 100)].toArray s 1 100 A) (F0 m 0 ls []) by rw [hH, hlo] at hgo; exact hgo
  clear hH hlo
  refine lv_aload_n hx hb dTa_init_0 rfl (lv_at hl 0 rfl) ?_
  refine W.objInit hx hb hown (hts _ wt1_33) (hts _ wt1_26) (hts _ wt1_27) rfl (by rw [hml]; exact hl.1) rfl dTa_init_1 (Nat.le_of_ble_eq_true rfl) (Nat.le_of_ble_eq_true rfl) ?_
  refine W.eq (g2 := F0 m 4 ls []) rfl ?_
  refine lv_aload_n hx hb dTa_init_4 rfl (lv_at hl 0 rfl) ?_
  refine lv_iconst (v := iI 0) hx hb dTa_init_5 rfl ?_
  refine va_put (D := (dC, dI)) (ci := 2) (v := .int (iI 0)) (ty := .int) (C := "MacroReckoner$Tape") (T := TTa) (N := 3) hx hb hts inTa tyTa tyTa_ok nmTa hown hK hP hD hS 0 rfl rfl 1 (by decide) (hts _ wt1_36) (fun _ h9 => h9) rfl (by decide +kernel) rfl rfl (Nat.le_of_ble_eq_true rfl) dTa_init_6 (fun H locs hP hD hS => ?_)
  have hP : va_P (dC, dI) vwCl ([(x, .inr (2, [.null, .int (iI 0), .int (iI 0)]))] : va_W) H := hP
  have hD : va_D A ([(x, .inr (2, [.null, .int (iI 0), .int (iI 0)]))] : va_W) := hD
  refine lv_aload_n hx hb dTa_init_9 rfl (lv_at hl 0 rfl) ?_
  refine lv_iconst (v := iI 0) hx hb dTa_init_10 rfl ?_
  refine va_put (D := (dC, dI)) (ci := 2) (v := .int (iI 0)) (ty := .int) (C := "MacroReckoner$Tape") (T := TTa) (N := 3) hx hb hts inTa tyTa tyTa_ok nmTa hown hK hP hD hS 0 rfl rfl 2 (by decide) (hts _ wt1_38) (fun _ h9 => h9) rfl (by decide +kernel) rfl rfl (Nat.le_of_ble_eq_true rfl) dTa_init_11 (fun H locs hP hD hS => ?_)
  have hP : va_P (dC, dI) vwCl ([(x, .inr (2, [.null, .int (iI 0), .int (iI 0)]))] : va_W) H := hP
  have hD : va_D A ([(x, .inr (2, [.null, .int (iI 0), .int (iI 0)]))] : va_W) := hD
  refine lv_aload_n hx hb dTa_init_14 rfl (lv_at hl 0 rfl) ?_
  refine lv_iload_n hx hb dTa_init_15 rfl (lv_at hl 1 rfl) ?_
  refine W_sz (n := x + 1) (by omega) (by have h9 : x < H.size := (hP 0 _ rfl).lt; omega) (fun hz => ?_)
  refine va_newaH (atype := .char) (n := iI 100) (N' := 100) (a0 := (100, .inl (arI (fun _ => 0)))) (ty := .char) hx hb (hts _ wt1_47) rfl hP hD hS hA (zar rfl) hty.2.1 (iIn (n := 100) (by decide)).1 (iIn (n := 100) (by decide)).2 (by show 100 * 2 ≤ 536870912; omega) (by show _ ≤ 1; omega) (by show _ ≤ 100; omega) dTa_init_16 hz (fun H hP hD hS hz => ?_)
  have hP : va_P (dC, dI) vwCl ([(x, .inr (2, [.null, .int (iI 0), .int (iI 0)])), (x + 1, .inl (dA 1, 100, .inl (arI (fun _ => 0))))] : va_W) H := hP
  have hD : va_D A ([(x, .inr (2, [.null, .int (iI 0), .int (iI 0)])), (x + 1, .inl (dA 1, 100, .inl (arI (fun _ => 0))))] : va_W) := hD
  refine va_putF (D := (dC, dI)) (ci := 2) (v := .ref (x + 1)) (ty := (.array .char)) (C := "MacroReckoner$Tape") (T := TTa) (N := 3) hx hb hts inTa tyTa tyTa_ok nmTa hown hK hP hD hS 0 rfl rfl 0 (by decide) (hts _ wt1_34) (fun _ h9 => h9) rfl hnm rfl (by decide +kernel) rfl rfl (Nat.le_of_ble_eq_true rfl) dTa_init_18 (fun H locs hP hD hS => ?_)
  have hP : va_P (dC, dI) vwCl ([(x, .inr (2, [.ref (x + 1), .int (iI 0), .int (iI 0)])), (x + 1, .inl (dA 1, 100, .inl (arI (fun _ => 0))))] : va_W) H := hP
  have hD : va_D A ([(x, .inr (2, [.ref (x + 1), .int (iI 0), .int (iI 0)])), (x + 1, .inl (dA 1, 100, .inl (arI (fun _ => 0))))] : va_W) := hD
  exact rt_v hx hb hr hlocks hK hS dTa_init_21 () hP hD trivial

abbrev rmTa_init_60 : Room := { frames := 1, cells := 1, slots := 60, locals := 12 }
set_option maxRecDepth 100000 in
set_option maxHeartbeats 4000000 in
theorem cTa_init_60 (l : Launch) (dC : Nat → ClassId) (dI : Nat → Nat → Nat) (dA : Nat → ClassId) (x : Nat)  (sz : Nat) (hz0 : sz = x + 1) : Met l yTa_init wsTa_init rmTa_init_60 (PC (dC, dI) vwCl (tyA dA) XY [.ref x, .int (iI 60)] [(x, .inr (2, [.null, .int (iI 0), .int (iI 0)]))] sz) (QN (dC, dI) vwCl (tyA dA) ([(x, .inr (2, [.ref (x + 1), .int (iI 0), .int (iI 0)])), (x + 1, .inl (dA 1, 60, .inl (arI (fun _ => 0))))] : va_W) (va_A [(x, .inr (2, [.null, .int (iI 0), .int (iI 0)]))] sz)) 1 60 (va_A [(x, .inr (2, [.null, .int (iI 0), .int (iI 0)]))] sz) := by
  refine met_ofN (cc := prog_4_method_1_code) (maxL := 2) (ret := none) (Qc := fun A => QN (dC, dI) vwCl (tyA dA) ([(x, .inr (2, [.ref (x + 1), .int (iI 0), .int (iI 0)])), (x + 1, .inl (dA 1, 60, .inl (arI (fun _ => 0))))] : va_W) A) (by decide) rfl (Nat.le_of_ble_eq_true rfl) ?_
  intro p e s m below meth c ls A hx hb hr hml hown hts hlocks hnm hK hP hD hA hX hS hl hsz
  have hl : lv_has ls 2 [(0, .ref x), (1, .int (iI 60))] := hl
  have hown : s.vm.findClass "MacroReckoner$Tape" = some m.cls := hown
  have hty := tyI hK
  have hsz : s.heap.size = x + 1 := hsz.trans hz0
  obtain ⟨H, hH⟩ : ∃ H : Heap, H = s.heap := ⟨_, rfl⟩
  obtain ⟨locs, hlo⟩ : ∃ L : List Loc, L = [] := ⟨_, rfl⟩
  have hP : va_P (dC, dI) vwCl ([(x, .inr (2, [.null, .int (iI 0), .int (iI 0)]))] : va_W) H := hH ▸ hP
  have hS : va_S A s.heap H locs := by rw [hH, hlo]; exact hS
  suffices hgo : W p l e rmTa_init_60 s m [.ref x, .int (iI 60)].toArray below meth c H locs 0 0 (MQ below (QN (dC, dI) vwCl (tyA dA) ([(x, .inr (2, [.ref (x + 1), .int (iI 0), .int (iI 0)])), (x + 1, .inl (dA 1, 60, .inl (arI (fun _ => 0))))] : va_W) A) [.ref x, .int (iI 60)].toArray s 1 60 A) (F0 m 0 ls []) by rw [hH, hlo] at hgo; exact hgo
  clear hH hlo
  refine lv_aload_n hx hb dTa_init_0 rfl (lv_at hl 0 rfl) ?_
  refine W.objInit hx hb hown (hts _ wt1_33) (hts _ wt1_26) (hts _ wt1_27) rfl (by rw [hml]; exact hl.1) rfl dTa_init_1 (Nat.le_of_ble_eq_true rfl) (Nat.le_of_ble_eq_true rfl) ?_
  refine W.eq (g2 := F0 m 4 ls []) rfl ?_
  refine lv_aload_n hx hb dTa_init_4 rfl (lv_at hl 0 rfl) ?_
  refine lv_iconst (v := iI 0) hx hb dTa_init_5 rfl ?_
  refine va_put (D := (dC, dI)) (ci := 2) (v := .int (iI 0)) (ty := .int) (C := "MacroReckoner$Tape") (T := TTa) (N := 3) hx hb hts inTa tyTa tyTa_ok nmTa hown hK hP hD hS 0 rfl rfl 1 (by decide) (hts _ wt1_36) (fun _ h9 => h9) rfl (by decide +kernel) rfl rfl (Nat.le_of_ble_eq_true rfl) dTa_init_6 (fun H locs hP hD hS => ?_)
  have hP : va_P (dC, dI) vwCl ([(x, .inr (2, [.null, .int (iI 0), .int (iI 0)]))] : va_W) H := hP
  have hD : va_D A ([(x, .inr (2, [.null, .int (iI 0), .int (iI 0)]))] : va_W) := hD
  refine lv_aload_n hx hb dTa_init_9 rfl (lv_at hl 0 rfl) ?_
  refine lv_iconst (v := iI 0) hx hb dTa_init_10 rfl ?_
  refine va_put (D := (dC, dI)) (ci := 2) (v := .int (iI 0)) (ty := .int) (C := "MacroReckoner$Tape") (T := TTa) (N := 3) hx hb hts inTa tyTa tyTa_ok nmTa hown hK hP hD hS 0 rfl rfl 2 (by decide) (hts _ wt1_38) (fun _ h9 => h9) rfl (by decide +kernel) rfl rfl (Nat.le_of_ble_eq_true rfl) dTa_init_11 (fun H locs hP hD hS => ?_)
  have hP : va_P (dC, dI) vwCl ([(x, .inr (2, [.null, .int (iI 0), .int (iI 0)]))] : va_W) H := hP
  have hD : va_D A ([(x, .inr (2, [.null, .int (iI 0), .int (iI 0)]))] : va_W) := hD
  refine lv_aload_n hx hb dTa_init_14 rfl (lv_at hl 0 rfl) ?_
  refine lv_iload_n hx hb dTa_init_15 rfl (lv_at hl 1 rfl) ?_
  refine W_sz (n := x + 1) (by omega) (by have h9 : x < H.size := (hP 0 _ rfl).lt; omega) (fun hz => ?_)
  refine va_newaH (atype := .char) (n := iI 60) (N' := 60) (a0 := (60, .inl (arI (fun _ => 0)))) (ty := .char) hx hb (hts _ wt1_47) rfl hP hD hS hA (zar rfl) hty.2.1 (iIn (n := 60) (by decide)).1 (iIn (n := 60) (by decide)).2 (by show 60 * 2 ≤ 536870912; omega) (by show _ ≤ 1; omega) (by show _ ≤ 60; omega) dTa_init_16 hz (fun H hP hD hS hz => ?_)
  have hP : va_P (dC, dI) vwCl ([(x, .inr (2, [.null, .int (iI 0), .int (iI 0)])), (x + 1, .inl (dA 1, 60, .inl (arI (fun _ => 0))))] : va_W) H := hP
  have hD : va_D A ([(x, .inr (2, [.null, .int (iI 0), .int (iI 0)])), (x + 1, .inl (dA 1, 60, .inl (arI (fun _ => 0))))] : va_W) := hD
  refine va_putF (D := (dC, dI)) (ci := 2) (v := .ref (x + 1)) (ty := (.array .char)) (C := "MacroReckoner$Tape") (T := TTa) (N := 3) hx hb hts inTa tyTa tyTa_ok nmTa hown hK hP hD hS 0 rfl rfl 0 (by decide) (hts _ wt1_34) (fun _ h9 => h9) rfl hnm rfl (by decide +kernel) rfl rfl (Nat.le_of_ble_eq_true rfl) dTa_init_18 (fun H locs hP hD hS => ?_)
  have hP : va_P (dC, dI) vwCl ([(x, .inr (2, [.ref (x + 1), .int (iI 0), .int (iI 0)])), (x + 1, .inl (dA 1, 60, .inl (arI (fun _ => 0))))] : va_W) H := hP
  have hD : va_D A ([(x, .inr (2, [.ref (x + 1), .int (iI 0), .int (iI 0)])), (x + 1, .inl (dA 1, 60, .inl (arI (fun _ => 0))))] : va_W) := hD
  exact rt_v hx hb hr hlocks hK hS dTa_init_21 () hP hD trivial

theorem dTo_init_0 : decode prog_5_method_1_code 0 = .ok (.aload_n 0, 1) := by decide +kernel
theorem dTo_init_1 : decode prog_5_method_1_code 1 = .ok (.invokespecial 3, 3) := by decide +kernel
theorem dTo_init_4 : decode prog_5_method_1_code 4 = .ok (.aload_n 0, 1) := by decide +kernel
theorem dTo_init_5 : decode prog_5_method_1_code 5 = .ok (.iconst 0, 1) := by decide +kernel
theorem dTo_init_6 : decode prog_5_method_1_code 6 = .ok (.putfield 11, 3) := by decide +kernel
theorem dTo_init_9 : decode prog_5_method_1_code 9 = .ok (.aload_n 0, 1) := by decide +kernel
theorem dTo_init_10 : decode prog_5_method_1_code 10 = .ok (.iconst 0, 1) := by decide +kernel
theorem dTo_init_11 : decode prog_5_method_1_code 11 = .ok (.putfield 15, 3) := by decide +kernel
theorem dTo_init_14 : decode prog_5_method_1_code 14 = .ok (.aload_n 0, 1) := by decide +kernel
theorem dTo_init_15 : decode prog_5_method_1_code 15 = .ok (.aconst_null, 1) := by decide +kernel
theorem dTo_init_16 : decode prog_5_method_1_code 16 = .ok (.putfield 19, 3) := by decide +kernel
theorem dTo_init_19 : decode prog_5_method_1_code 19 = .ok (.aload_n 0, 1) := by decide +kernel
theorem dTo_init_20 : decode prog_5_method_1_code 20 = .ok (.iconst 0, 1) := by decide +kernel
theorem dTo_init_21 : decode prog_5_method_1_code 21 = .ok (.putfield 23, 3) := by decide +kernel
theorem dTo_init_24 : decode prog_5_method_1_code 24 = .ok (.aload_n 0, 1) := by decide +kernel
theorem dTo_init_25 : decode prog_5_method_1_code 25 = .ok (.iconst 0, 1) := by decide +kernel
theorem dTo_init_26 : decode prog_5_method_1_code 26 = .ok (.putfield 26, 3) := by decide +kernel
theorem dTo_init_29 : decode prog_5_method_1_code 29 = .ok (.aload_n 0, 1) := by decide +kernel
theorem dTo_init_30 : decode prog_5_method_1_code 30 = .ok (.iconst 0, 1) := by decide +kernel
theorem dTo_init_31 : decode prog_5_method_1_code 31 = .ok (.putfield 29, 3) := by decide +kernel
theorem dTo_init_34 : decode prog_5_method_1_code 34 = .ok (.return_, 1) := by decide +kernel
abbrev rmTo_init : Room := { frames := 1, cells := 0, slots := 0, locals := 12 }
set_option maxRecDepth 100000 in
set_option maxHeartbeats 4000000 in
theorem cTo_init (l : Launch) (dC : Nat → ClassId) (dI : Nat → Nat → Nat) (dA : Nat → ClassId) (x : Nat)  (sz : Nat) (hz0 : sz = x + 1) : Met l yTo_init wsTo_init rmTo_init (PC (dC, dI) vwCl (tyA dA) XY [.ref x] [(x, .inr (3, [.int (iI 0), .int (iI 0), .null, .int (iI 0), .int (iI 0), .int (iI 0)]))] sz) (QN (dC, dI) vwCl (tyA dA) ([(x, .inr (3, [.int (iI 0), .int (iI 0), .null, .int (iI 0), .int (iI 0), .int (iI 0)]))] : va_W) (va_A [(x, .inr (3, [.int (iI 0), .int (iI 0), .null, .int (iI 0), .int (iI 0), .int (iI 0)]))] sz)) 0 0 (va_A [(x, .inr (3, [.int (iI 0), .int (iI 0), .null, .int (iI 0), .int (iI 0), .int (iI 0)]))] sz) := by
  refine met_ofN (cc := prog_5_method_1_code) (maxL := 1) (ret := none) (Qc := fun A => QN (dC, dI) vwCl (tyA dA) ([(x, .inr (3, [.int (iI 0), .int (iI 0), .null, .int (iI 0), .int (iI 0), .int (iI 0)]))] : va_W) A) (by decide) rfl (Nat.le_of_ble_eq_true rfl) ?_
  intro p e s m below meth c ls A hx hb hr hml hown hts hlocks hnm hK hP hD hA hX hS hl hsz
  have hl : lv_has ls 1 [(0, .ref x)] := hl
  have hown : s.vm.findClass "MacroReckoner$Token" = some m.cls := hown
  have hty := tyI hK
  have hsz : s.heap.size = x + 1 := hsz.trans hz0
  obtain ⟨H, hH⟩ : ∃ H : Heap, H = s.heap := ⟨_, rfl⟩
  obtain ⟨locs, hlo⟩ : ∃ L : List Loc, L = [] := ⟨_, rfl⟩
  have hP : va_P (dC, dI) vwCl ([(x, .inr (3, [.int (iI 0), .int (iI 0), .null, .int (iI 0), .int (iI 0), .int (iI 0)]))] : va_W) H := hH ▸ hP
  have hS : va_S A s.heap H locs := by rw [hH, hlo]; exact hS
  suffices hgo : W p l e rmTo_init s m [.ref x].toArray below meth c H locs 0 0 (MQ below (QN (dC, dI) vwCl (tyA dA) ([(x, .inr (3, [.int (iI 0), .int (iI 0), .null, .int (iI 0), .int (iI 0), .int (iI 0)]))] : va_W) A) [.ref x].toArray s 0 0 A) (F0 m 0 ls []) by rw [hH, hlo] at hgo; exact hgo
  clear hH hlo
  refine lv_aload_n hx hb dTo_init_0 rfl (lv_at hl 0 rfl) ?_
  refine W.objInit hx hb hown (hts _ wt1_54) (hts _ wt1_26) (hts _ wt1_27) rfl (by rw [hml]; exact hl.1) rfl dTo_init_1 (Nat.le_of_ble_eq_true rfl) (Nat.le_of_ble_eq_true rfl) ?_
  refine W.eq (g2 := F0 m 4 ls []) rfl ?_
  refine lv_aload_n hx hb dTo_init_4 rfl (lv_at hl 0 rfl) ?_
  refine lv_iconst (v := iI 0) hx hb dTo_init_5 rfl ?_
  refine va_put (D := (dC, dI)) (ci := 3) (v := .int (iI 0)) (ty := .char) (C := "MacroReckoner$Token") (T := TTo) (N := 6) hx hb hts inTo tyTo tyTo_ok nmTo hown hK hP hD hS 0 rfl rfl 0 (by decide) (hts _ wt1_55) (fun _ h9 => h9) rfl (by decide +kernel) (by decide +kernel) (by decide +kernel) (Nat.le_of_ble_eq_true rfl) dTo_init_6 (fun H locs hP hD hS => ?_)
  have hP : va_P (dC, dI) vwCl ([(x, .inr (3, [.int (iI 0), .int (iI 0), .null, .int (iI 0), .int (iI 0), .int (iI 0)]))] : va_W) H := hP
  have hD : va_D A ([(x, .inr (3, [.int (iI 0), .int (iI 0), .null, .int (iI 0), .int (iI 0), .int (iI 0)]))] : va_W) := hD
  refine lv_aload_n hx hb dTo_init_9 rfl (lv_at hl 0 rfl) ?_
  refine lv_iconst (v := iI 0) hx hb dTo_init_10 rfl ?_
  refine va_put (D := (dC, dI)) (ci := 3) (v := .int (iI 0)) (ty := .int) (C := "MacroReckoner$Token") (T := TTo) (N := 6) hx hb hts inTo tyTo tyTo_ok nmTo hown hK hP hD hS 0 rfl rfl 1 (by decide) (hts _ wt1_57) (fun _ h9 => h9) rfl (by decide +kernel) rfl rfl (Nat.le_of_ble_eq_true rfl) dTo_init_11 (fun H locs hP hD hS => ?_)
  have hP : va_P (dC, dI) vwCl ([(x, .inr (3, [.int (iI 0), .int (iI 0), .null, .int (iI 0), .int (iI 0), .int (iI 0)]))] : va_W) H := hP
  have hD : va_D A ([(x, .inr (3, [.int (iI 0), .int (iI 0), .null, .int (iI 0), .int (iI 0), .int (iI 0)]))] : va_W) := hD
  refine lv_aload_n hx hb dTo_init_14 rfl (lv_at hl 0 rfl) ?_
  refine lv_null hx hb dTo_init_15 ?_
  refine va_put (D := (dC, dI)) (ci := 3) (v := .null) (ty := (.array .char)) (C := "MacroReckoner$Token") (T := TTo) (N := 6) hx hb hts inTo tyTo tyTo_ok nmTo hown hK hP hD hS 0 rfl rfl 2 (by decide) (hts _ wt1_59) (fun _ h9 => h9) rfl (by decide +kernel) rfl rfl (Nat.le_of_ble_eq_true rfl) dTo_init_16 (fun H locs hP hD hS => ?_)
  have hP : va_P (dC, dI) vwCl ([(x, .inr (3, [.int (iI 0), .int (iI 0), .null, .int (iI 0), .int (iI 0), .int (iI 0)]))] : va_W) H := hP
  have hD : va_D A ([(x, .inr (3, [.int (iI 0), .int (iI 0), .null, .int (iI 0), .int (iI 0), .int (iI 0)]))] : va_W) := hD
  refine lv_aload_n hx hb dTo_init_19 rfl (lv_at hl 0 rfl) ?_
  refine lv_iconst (v := iI 0) hx hb dTo_init_20 rfl ?_
  refine va_put (D := (dC, dI)) (ci := 3) (v := .int (iI 0)) (ty := .int) (C := "MacroReckoner$Token") (T := TTo) (N := 6) hx hb hts inTo tyTo tyTo_ok nmTo hown hK hP hD hS 0 rfl rfl 3 (by decide) (hts _ wt1_61) (fun _ h9 => h9) rfl (by decide +kernel) rfl rfl (Nat.le_of_ble_eq_true rfl) dTo_init_21 (fun H locs hP hD hS => ?_)
  have hP : va_P (dC, dI) vwCl ([(x, .inr (3, [.int (iI 0), .int (iI 0), .null, .int (iI 0), .int (iI 0), .int (iI 0)]))] : va_W) H := hP
  have hD : va_D A ([(x, .inr (3, [.int (iI 0), .int (iI 0), .null, .int (iI 0), .int (iI 0), .int (iI 0)]))] : va_W) := hD
  refine lv_aload_n hx hb dTo_init_24 rfl (lv_at hl 0 rfl) ?_
  refine lv_iconst (v := iI 0) hx hb dTo_init_25 rfl ?_
  refine va_put (D := (dC, dI)) (ci := 3) (v := .int (iI 0)) (ty := .int) (C := "MacroReckoner$Token") (T := TTo) (N := 6) hx hb hts inTo tyTo tyTo_ok nmTo hown hK hP hD hS 0 rfl rfl 4 (by decide) (hts _ wt1_63) (fun _ h9 => h9) rfl (by decide +kernel) rfl rfl (Nat.le_of_ble_eq_true rfl) dTo_init_26 (fun H locs hP hD hS => ?_)
  have hP : va_P (dC, dI) vwCl ([(x, .inr (3, [.int (iI 0), .int (iI 0), .null, .int (iI 0), .int (iI 0), .int (iI 0)]))] : va_W) H := hP
  have hD : va_D A ([(x, .inr (3, [.int (iI 0), .int (iI 0), .null, .int (iI 0), .int (iI 0), .int (iI 0)]))] : va_W) := hD
  refine lv_aload_n hx hb dTo_init_29 rfl (lv_at hl 0 rfl) ?_
  refine lv_iconst (v := iI 0) hx hb dTo_init_30 rfl ?_
  refine va_put (D := (dC, dI)) (ci := 3) (v := .int (iI 0)) (ty := .int) (C := "MacroReckoner$Token") (T := TTo) (N := 6) hx hb hts inTo tyTo tyTo_ok nmTo hown hK hP hD hS 0 rfl rfl 5 (by decide) (hts _ wt1_64) (fun _ h9 => h9) rfl (by decide +kernel) rfl rfl (Nat.le_of_ble_eq_true rfl) dTo_init_31 (fun H locs hP hD hS => ?_)
  have hP : va_P (dC, dI) vwCl ([(x, .inr (3, [.int (iI 0), .int (iI 0), .null, .int (iI 0), .int (iI 0), .int (iI 0)]))] : va_W) H := hP
  have hD : va_D A ([(x, .inr (3, [.int (iI 0), .int (iI 0), .null, .int (iI 0), .int (iI 0), .int (iI 0)]))] : va_W) := hD
  exact rt_v hx hb hr hlocks hK hS dTo_init_34 () hP hD trivial

theorem dPa_init_0 : decode prog_3_method_1_code 0 = .ok (.aload_n 0, 1) := by decide +kernel
theorem dPa_init_1 : decode prog_3_method_1_code 1 = .ok (.invokespecial 3, 3) := by decide +kernel
theorem dPa_init_4 : decode prog_3_method_1_code 4 = .ok (.aload_n 0, 1) := by decide +kernel
theorem dPa_init_5 : decode prog_3_method_1_code 5 = .ok (.sipush 200, 3) := by decide +kernel
theorem dPa_init_8 : decode prog_3_method_1_code 8 = .ok (.newarray .char, 2) := by decide +kernel
theorem dPa_init_10 : decode prog_3_method_1_code 10 = .ok (.putfield 9, 3) := by decide +kernel
theorem dPa_init_13 : decode prog_3_method_1_code 13 = .ok (.aload_n 0, 1) := by decide +kernel
theorem dPa_init_14 : decode prog_3_method_1_code 14 = .ok (.iconst 0, 1) := by decide +kernel
theorem dPa_init_15 : decode prog_3_method_1_code 15 = .ok (.putfield 15, 3) := by decide +kernel
theorem dPa_init_18 : decode prog_3_method_1_code 18 = .ok (.return_, 1) := by decide +kernel
abbrev rmPa_init : Room := { frames := 1, cells := 1, slots := 200, locals := 12 }
set_option maxRecDepth 100000 in
set_option maxHeartbeats 4000000 in
theorem cPa_init (l : Launch) (dC : Nat → ClassId) (dI : Nat → Nat → Nat) (dA : Nat → ClassId) (x : Nat)  (sz : Nat) (hz0 : sz = x + 1) : Met l yPa_init wsPa_init rmPa_init (PC (dC, dI) vwCl (tyA dA) XY [.ref x] [(x, .inr (1, [.null, .int (iI 0)]))] sz) (QN (dC, dI) vwCl (tyA dA) ([(x, .inr (1, [.ref (x + 1), .int (iI 0)])), (x + 1, .inl (dA 1, 200, .inl (arI (fun _ => 0))))] : va_W) (va_A [(x, .inr (1, [.null, .int (iI 0)]))] sz)) 1 200 (va_A [(x, .inr (1, [.null, .int (iI 0)]))] sz) := by
  refine met_ofN (cc := prog_3_method_1_code) (maxL := 1) (ret := none) (Qc := fun A => QN (dC, dI) vwCl (tyA dA) ([(x, .inr (1, [.ref (x + 1), .int (iI 0)])), (x + 1, .inl (dA 1, 200, .inl (arI (fun _ => 0))))] : va_W) A) (by decide) rfl (Nat.le_of_ble_eq_true rfl) ?_
  intro p e s m below meth c ls A hx hb hr hml hown hts hlocks hnm hK hP hD hA hX hS hl hsz
  have hl : lv_has ls 1 [(0, .ref x)] := hl
  have hown : s.vm.findClass "MacroReckoner$Paper" = some m.cls := hown
  have hty := tyI hK
  have hsz : s.heap.size = x + 1 := hsz.trans hz0
  obtain ⟨H, hH⟩ : ∃ H : Heap, H = s.heap := ⟨_, rfl⟩
  obtain ⟨locs, hlo⟩ : ∃ L : List Loc, L = [] := ⟨_, rfl⟩
  have hP : va_P (dC, dI) vwCl ([(x, .inr (1, [.null, .int (iI 0)]))] : va_W) H := hH ▸ hP
  have hS : va_S A s.heap H locs := by rw [hH, hlo]; exact hS
  suffices hgo : W p l e rmPa_init s m [.ref x].toArray below meth c H locs 0 0 (MQ below (QN (dC, dI) vwCl (tyA dA) ([(x, .inr (1, [.ref (x + 1), .int (iI 0)])), (x + 1, .inl (dA 1, 200, .inl (arI (fun _ => 0))))] : va_W) A) [.ref x].toArray s 1 200 A) (F0 m 0 ls []) by rw [hH, hlo] at hgo; exact hgo
  clear hH hlo
  refine lv_aload_n hx hb dPa_init_0 rfl (lv_at hl 0 rfl) ?_
  refine W.objInit hx hb hown (hts _ wt1_163) (hts _ wt1_26) (hts _ wt1_27) rfl (by rw [hml]; exact hl.1) rfl dPa_init_1 (Nat.le_of_ble_eq_true rfl) (Nat.le_of_ble_eq_true rfl) ?_
  refine W.eq (g2 := F0 m 4 ls []) rfl ?_
  refine lv_aload_n hx hb dPa_init_4 rfl (lv_at hl 0 rfl) ?_
  refine lv_sipush (v := iI 200) hx hb dPa_init_5 (by decide) ?_
  refine W_sz (n := x + 1) (by omega) (by have h9 : x < H.size := (hP 0 _ rfl).lt; omega) (fun hz => ?_)
  refine va_newaH (atype := .char) (n := iI 200) (N' := 200) (a0 := (200, .inl (arI (fun _ => 0)))) (ty := .char) hx hb (hts _ wt1_47) rfl hP hD hS hA (zar rfl) hty.2.1 (iIn (n := 200) (by decide)).1 (iIn (n := 200) (by decide)).2 (by show 200 * 2 ≤ 536870912; omega) (by show _ ≤ 1; omega) (by show _ ≤ 200; omega) dPa_init_8 hz (fun H hP hD hS hz => ?_)
  have hP : va_P (dC, dI) vwCl ([(x, .inr (1, [.null, .int (iI 0)])), (x + 1, .inl (dA 1, 200, .inl (arI (fun _ => 0))))] : va_W) H := hP
  have hD : va_D A ([(x, .inr (1, [.null, .int (iI 0)])), (x + 1, .inl (dA 1, 200, .inl (arI (fun _ => 0))))] : va_W) := hD
  refine va_putF (D := (dC, dI)) (ci := 1) (v := .ref (x + 1)) (ty := (.array .char)) (C := "MacroReckoner$Paper") (T := TPa) (N := 2) hx hb hts inPa tyPa tyPa_ok nmPa hown hK hP hD hS 0 rfl rfl 0 (by decide) (hts _ wt1_164) (fun _ h9 => h9) rfl hnm rfl (by decide +kernel) rfl rfl (Nat.le_of_ble_eq_true rfl) dPa_init_10 (fun H locs hP hD hS => ?_)
  have hP : va_P (dC, dI) vwCl ([(x, .inr (1, [.ref (x + 1), .int (iI 0)])), (x + 1, .inl (dA 1, 200, .inl (arI (fun _ => 0))))] : va_W) H := hP
  have hD : va_D A ([(x, .inr (1, [.ref (x + 1), .int (iI 0)])), (x + 1, .inl (dA 1, 200, .inl (arI (fun _ => 0))))] : va_W) := hD
  refine lv_aload_n hx hb dPa_init_13 rfl (lv_at hl 0 rfl) ?_
  refine lv_iconst (v := iI 0) hx hb dPa_init_14 rfl ?_
  refine va_put (D := (dC, dI)) (ci := 1) (v := .int (iI 0)) (ty := .int) (C := "MacroReckoner$Paper") (T := TPa) (N := 2) hx hb hts inPa tyPa tyPa_ok nmPa hown hK hP hD hS 0 rfl rfl 1 (by decide) (hts _ wt1_166) (fun _ h9 => h9) rfl (by decide +kernel) rfl rfl (Nat.le_of_ble_eq_true rfl) dPa_init_15 (fun H locs hP hD hS => ?_)
  have hP : va_P (dC, dI) vwCl ([(x, .inr (1, [.ref (x + 1), .int (iI 0)])), (x + 1, .inl (dA 1, 200, .inl (arI (fun _ => 0))))] : va_W) H := hP
  have hD : va_D A ([(x, .inr (1, [.ref (x + 1), .int (iI 0)])), (x + 1, .inl (dA 1, 200, .inl (arI (fun _ => 0))))] : va_W) := hD
  exact rt_v hx hb hr hlocks hK hS dPa_init_18 () hP hD trivial

theorem dAr_init_0 : decode prog_2_method_1_code 0 = .ok (.aload_n 0, 1) := by decide +kernel
theorem dAr_init_1 : decode prog_2_method_1_code 1 = .ok (.invokespecial 3, 3) := by decide +kernel
theorem dAr_init_4 : decode prog_2_method_1_code 4 = .ok (.aload_n 0, 1) := by decide +kernel
theorem dAr_init_5 : decode prog_2_method_1_code 5 = .ok (.new 9, 3) := by decide +kernel
theorem dAr_init_8 : decode prog_2_method_1_code 8 = .ok (.dup, 1) := by decide +kernel
theorem dAr_init_9 : decode prog_2_method_1_code 9 = .ok (.invokespecial 11, 3) := by decide +kernel
theorem dAr_init_12 : decode prog_2_method_1_code 12 = .ok (.putfield 12, 3) := by decide +kernel
theorem dAr_init_15 : decode prog_2_method_1_code 15 = .ok (.aload_n 0, 1) := by decide +kernel
theorem dAr_init_16 : decode prog_2_method_1_code 16 = .ok (.new 9, 3) := by decide +kernel
theorem dAr_init_19 : decode prog_2_method_1_code 19 = .ok (.dup, 1) := by decide +kernel
theorem dAr_init_20 : decode prog_2_method_1_code 20 = .ok (.invokespecial 11, 3) := by decide +kernel
theorem dAr_init_23 : decode prog_2_method_1_code 23 = .ok (.putfield 18, 3) := by decide +kernel
theorem dAr_init_26 : decode prog_2_method_1_code 26 = .ok (.aload_n 0, 1) := by decide +kernel
theorem dAr_init_27 : decode prog_2_method_1_code 27 = .ok (.new 9, 3) := by decide +kernel
theorem dAr_init_30 : decode prog_2_method_1_code 30 = .ok (.dup, 1) := by decide +kernel
theorem dAr_init_31 : decode prog_2_method_1_code 31 = .ok (.invokespecial 11, 3) := by decide +kernel
theorem dAr_init_34 : decode prog_2_method_1_code 34 = .ok (.putfield 21, 3) := by decide +kernel
theorem dAr_init_37 : decode prog_2_method_1_code 37 = .ok (.aload_n 0, 1) := by decide +kernel
theorem dAr_init_38 : decode prog_2_method_1_code 38 = .ok (.new 9, 3) := by decide +kernel
theorem dAr_init_41 : decode prog_2_method_1_code 41 = .ok (.dup, 1) := by decide +kernel
theorem dAr_init_42 : decode prog_2_method_1_code 42 = .ok (.invokespecial 11, 3) := by decide +kernel
theorem dAr_init_45 : decode prog_2_method_1_code 45 = .ok (.putfield 24, 3) := by decide +kernel
theorem dAr_init_48 : decode prog_2_method_1_code 48 = .ok (.aload_n 0, 1) := by decide +kernel
theorem dAr_init_49 : decode prog_2_method_1_code 49 = .ok (.aload_n 1, 1) := by decide +kernel
theorem dAr_init_50 : decode prog_2_method_1_code 50 = .ok (.putfield 27, 3) := by decide +kernel
theorem dAr_init_53 : decode prog_2_method_1_code 53 = .ok (.return_, 1) := by decide +kernel
abbrev rmAr_init : Room := { frames := 2, cells := 8, slots := 136, locals := 32 }
set_option maxRecDepth 100000 in
set_option maxHeartbeats 4000000 in
theorem cAr_init (l : Launch) (dC : Nat → ClassId) (dI : Nat → Nat → Nat) (dA : Nat → ClassId) (x : Nat) (rs : Nat) (sz : Nat) (hz0 : sz = x + 1) : Met l yAr_init wsAr_init rmAr_init (PC (dC, dI) vwCl (tyA dA) XY [.ref x, .ref rs] [(x, .inr (0, [.null, .null, .null, .null, .null]))] sz) (QN (dC, dI) vwCl (tyA dA) ([(x, .inr (0, [.ref rs, .ref (x + 1), .ref (x + 3), .ref (x + 5), .ref (x + 7)])), (x + 1, .inr (5, [.ref (x + 2), .int (iI 0)])), (x + 2, .inl (dA 0, 32, .inl (arI (fun _ => 0)))), (x + 3, .inr (5, [.ref (x + 4), .int (iI 0)])), (x + 4, .inl (dA 0, 32, .inl (arI (fun _ => 0)))), (x + 5, .inr (5, [.ref (x + 6), .int (iI 0)])), (x + 6, .inl (dA 0, 32, .inl (arI (fun _ => 0)))), (x + 7, .inr (5, [.ref (x + 8), .int (iI 0)])), (x + 8, .inl (dA 0, 32, .inl (arI (fun _ => 0))))] : va_W) (va_A [(x, .inr (0, [.null, .null, .null, .null, .null]))] sz)) 8 136 (va_A [(x, .inr (0, [.null, .null, .null, .null, .null]))] sz) := by
  refine met_ofN (cc := prog_2_method_1_code) (maxL := 2) (ret := none) (Qc := fun A => QN (dC, dI) vwCl (tyA dA) ([(x, .inr (0, [.ref rs, .ref (x + 1), .ref (x + 3), .ref (x + 5), .ref (x + 7)])), (x + 1, .inr (5, [.ref (x + 2), .int (iI 0)])), (x + 2, .inl (dA 0, 32, .inl (arI (fun _ => 0)))), (x + 3, .inr (5, [.ref (x + 4), .int (iI 0)])), (x + 4, .inl (dA 0, 32, .inl (arI (fun _ => 0)))), (x + 5, .inr (5, [.ref (x + 6), .int (iI 0)])), (x + 6, .inl (dA 0, 32, .inl (arI (fun _ => 0)))), (x + 7, .inr (5, [.ref (x + 8), .int (iI 0)])), (x + 8, .inl (dA 0, 32, .inl (arI (fun _ => 0))))] : va_W) A) (by decide) rfl (Nat.le_of_ble_eq_true rfl) ?_
  intro p e s m below meth c ls A hx hb hr hml hown hts hlocks hnm hK hP hD hA hX hS hl hsz
  have hl : lv_has ls 2 [(0, .ref x), (1, .ref rs)] := hl
  have hown : s.vm.findClass "MacroReckoner$Arithmetic" = some m.cls := hown
  have hty := tyI hK
  have hsz : s.heap.size = x + 1 := hsz.trans hz0
  obtain ⟨H, hH⟩ : ∃ H : Heap, H = s.heap := ⟨_, rfl⟩
  obtain ⟨locs, hlo⟩ : ∃ L : List Loc, L = [] := ⟨_, rfl⟩
  have hP : va_P (dC, dI) vwCl ([(x, .inr (0, [.null, .null, .null, .null, .null]))] : va_W) H := hH ▸ hP
  have hS : va_S A s.heap H locs := by rw [hH, hlo]; exact hS
  suffices hgo : W p l e rmAr_init s m [.ref x, .ref rs].toArray below meth c H locs 0 0 (MQ below (QN (dC, dI) vwCl (tyA dA) ([(x, .inr (0, [.ref rs, .ref (x + 1), .ref (x + 3), .ref (x + 5), .ref (x + 7)])), (x + 1, .inr (5, [.ref (x + 2), .int (iI 0)])), (x + 2, .inl (dA 0, 32, .inl (arI (fun _ => 0)))), (x + 3, .inr (5, [.ref (x + 4), .int (iI 0)])), (x + 4, .inl (dA 0, 32, .inl (arI (fun _ => 0)))), (x + 5, .inr (5, [.ref (x + 6), .int (iI 0)])), (x + 6, .inl (dA 0, 32, .inl (arI (fun _ => 0)))), (x + 7, .inr (5, [.ref (x + 8), .int (iI 0)])), (x + 8, .inl (dA 0, 32, .inl (arI (fun _ => 0))))] : va_W) A) [.ref x, .ref rs].toArray s 8 136 A) (F0 m 0 ls []) by rw [hH, hlo] at hgo; exact hgo
  clear hH hlo
  refine lv_aload_n hx hb dAr_init_0 rfl (lv_at hl 0 rfl) ?_
  refine W.objInit hx hb hown (hts _ wt1_139) (hts _ wt1_26) (hts _ wt1_27) rfl (by rw [hml]; exact hl.1) rfl dAr_init_1 (Nat.le_of_ble_eq_true rfl) (Nat.le_of_ble_eq_true rfl) ?_
  refine W.eq (g2 := F0 m 4 ls []) rfl ?_
  refine lv_aload_n hx hb dAr_init_4 rfl (lv_at hl 0 rfl) ?_
  refine W_sz (n := x + 1) (by omega) (by have h9 : x < H.size := (hP 0 _ rfl).lt; omega) (fun hz => ?_)
  refine va_newH (ci := 5) (fs := [.null, .int (iI 0)]) (C := "MacroReckoner$Whole") (T := TWh) (N := 2) hx hb hts inWh tyWh tyWh_ok hown (hts _ wt1_140) (hts _ wt1_87) (hts _ wt1_5) hK hP hD hS hA rfl (by decide +kernel) (by show _ ≤ 8; omega) (by show _ ≤ 136; omega) dAr_init_5 hz (fun H hP hD hS hz => ?_)
  have hP : va_P (dC, dI) vwCl ([(x, .inr (0, [.null, .null, .null, .null, .null])), (x + 1, .inr (5, [.null, .int (iI 0)]))] : va_W) H := hP
  have hD : va_D A ([(x, .inr (0, [.null, .null, .null, .null, .null])), (x + 1, .inr (5, [.null, .int (iI 0)]))] : va_W) := hD
  refine lv_dup hx hb dAr_init_8 rfl ?_
  refine cvN (wr := [(x, .inr (0, [.null, .null, .null, .null, .null]))]) (wc := [(x + 1, .inr (5, [.null, .int (iI 0)]))]) (va_runIN (As := []) (rest := [.ref (x + 1), .ref x]) ⟨hx, hb, hml, hown, hts⟩ (cWh_init l dC dI dA (x + 1)  H.size hz) ⟨va_cnB (host := "MacroReckoner") 0 hts (gd wt1_90) rfl rfl rfl (nM_3 hX.1) (hts _ wt1_5) ⟨by decide, by decide, by decide +kernel⟩ ⟨by decide, by decide⟩, rfl, hts _ wt1_89⟩ (preE (wr := [(x, .inr (0, [.null, .null, .null, .null, .null]))]) hK hP hD hS hA XY_ok hX) rfl rfl hl.1 rfl (lv_room (Nat.le_of_ble_eq_true rfl)) dAr_init_9 ⟨by show _ ≤ 8; omega, by show _ ≤ 136; omega⟩) hP hD hS hA (fun H locs hP hD hS => ?_)
  have hP : va_P (dC, dI) vwCl ([(x, .inr (0, [.null, .null, .null, .null, .null])), (x + 1, .inr (5, [.ref (x + 2), .int (iI 0)])), (x + 2, .inl (dA 0, 32, .inl (arI (fun _ => 0))))] : va_W) H := hP
  have hD : va_D A ([(x, .inr (0, [.null, .null, .null, .null, .null])), (x + 1, .inr (5, [.ref (x + 2), .int (iI 0)])), (x + 2, .inl (dA 0, 32, .inl (arI (fun _ => 0))))] : va_W) := hD
  refine va_putF (D := (dC, dI)) (ci := 0) (v := .ref (x + 1)) (ty := (.object "MacroReckoner$Whole")) (C := "MacroReckoner$Arithmetic") (T := TAr) (N := 5) hx hb hts inAr tyAr tyAr_ok nmAr hown hK hP hD hS 0 rfl rfl 1 (by decide) (hts _ wt1_143) (fun _ h9 => h9) rfl hnm rfl (by decide +kernel) rfl rfl (Nat.le_of_ble_eq_true rfl) dAr_init_12 (fun H locs hP hD hS => ?_)
  have hP : va_P (dC, dI) vwCl ([(x, .inr (0, [.null, .ref (x + 1), .null, .null, .null])), (x + 1, .inr (5, [.ref (x + 2), .int (iI 0)])), (x + 2, .inl (dA 0, 32, .inl (arI (fun _ => 0))))] : va_W) H := hP
  have hD : va_D A ([(x, .inr (0, [.null, .ref (x + 1), .null, .null, .null])), (x + 1, .inr (5, [.ref (x + 2), .int (iI 0)])), (x + 2, .inl (dA 0, 32, .inl (arI (fun _ => 0))))] : va_W) := hD
  refine lv_aload_n hx hb dAr_init_15 rfl (lv_at hl 0 rfl) ?_
  refine W_sz (n := x + 3) (by omega) (by have h9 : x + 2 < H.size := (hP 2 _ rfl).lt; omega) (fun hz => ?_)
  refine va_newH (ci := 5) (fs := [.null, .int (iI 0)]) (C := "MacroReckoner$Whole") (T := TWh) (N := 2) hx hb hts inWh tyWh tyWh_ok hown (hts _ wt1_140) (hts _ wt1_87) (hts _ wt1_5) hK hP hD hS hA rfl (by decide +kernel) (by show _ ≤ 8; omega) (by show _ ≤ 136; omega) dAr_init_16 hz (fun H hP hD hS hz => ?_)
  have hP : va_P (dC, dI) vwCl ([(x, .inr (0, [.null, .ref (x + 1), .null, .null, .null])), (x + 1, .inr (5, [.ref (x + 2), .int (iI 0)])), (x + 2, .inl (dA 0, 32, .inl (arI (fun _ => 0)))), (x + 3, .inr (5, [.null, .int (iI 0)]))] : va_W) H := hP
  have hD : va_D A ([(x, .inr (0, [.null, .ref (x + 1), .null, .null, .null])), (x + 1, .inr (5, [.ref (x + 2), .int (iI 0)])), (x + 2, .inl (dA 0, 32, .inl (arI (fun _ => 0)))), (x + 3, .inr (5, [.null, .int (iI 0)]))] : va_W) := hD
  refine lv_dup hx hb dAr_init_19 rfl ?_
  refine cvN (wr := [(x, .inr (0, [.null, .ref (x + 1), .null, .null, .null])), (x + 1, .inr (5, [.ref (x + 2), .int (iI 0)])), (x + 2, .inl (dA 0, 32, .inl (arI (fun _ => 0))))]) (wc := [(x + 3, .inr (5, [.null, .int (iI 0)]))]) (va_runIN (As := []) (rest := [.ref (x + 3), .ref x]) ⟨hx, hb, hml, hown, hts⟩ (cWh_init l dC dI dA (x + 3)  H.size hz) ⟨va_cnB (host := "MacroReckoner") 0 hts (gd wt1_90) rfl rfl rfl (nM_3 hX.1) (hts _ wt1_5) ⟨by decide, by decide, by decide +kernel⟩ ⟨by decide, by decide⟩, rfl, hts _ wt1_89⟩ (preE (wr := [(x, .inr (0, [.null, .ref (x + 1), .null, .null, .null])), (x + 1, .inr (5, [.ref (x + 2), .int (iI 0)])), (x + 2, .inl (dA 0, 32, .inl (arI (fun _ => 0))))]) hK hP hD hS hA XY_ok hX) rfl rfl hl.1 rfl (lv_room (Nat.le_of_ble_eq_true rfl)) dAr_init_20 ⟨by show _ ≤ 8; omega, by show _ ≤ 136; omega⟩) hP hD hS hA (fun H locs hP hD hS => ?_)
  have hP : va_P (dC, dI) vwCl ([(x, .inr (0, [.null, .ref (x + 1), .null, .null, .null])), (x + 1, .inr (5, [.ref (x + 2), .int (iI 0)])), (x + 2, .inl (dA 0, 32, .inl (arI (fun _ => 0)))), (x + 3, .inr (5, [.ref (x + 4), .int (iI 0)])), (x + 4, .inl (dA 0, 32, .inl (arI (fun _ => 0))))] : va_W) H := hP
  have hD : va_D A ([(x, .inr (0, [.null, .ref (x + 1), .null, .null, .null])), (x + 1, .inr (5, [.ref (x + 2), .int (iI 0)])), (x + 2, .inl (dA 0, 32, .inl (arI (fun _ => 0)))), (x + 3, .inr (5, [.ref (x + 4), .int (iI 0)])), (x + 4, .inl (dA 0, 32, .inl (arI (fun _ => 0))))] : va_W) := hD
  refine va_putF (D := (dC, dI)) (ci := 0) (v := .ref (x + 3)) (ty := (.object "MacroReckoner$Whole")) (C := "MacroReckoner$Arithmetic") (T := TAr) (N := 5) hx hb hts inAr tyAr tyAr_ok nmAr hown hK hP hD hS 0 rfl rfl 2 (by decide) (hts _ wt1_144) (fun _ h9 => h9) rfl hnm rfl (by decide +kernel) rfl rfl (Nat.le_of_ble_eq_true rfl) dAr_init_23 (fun H locs hP hD hS => ?_)
  have hP : va_P (dC, dI) vwCl ([(x, .inr (0, [.null, .ref (x + 1), .ref (x + 3), .null, .null])), (x + 1, .inr (5, [.ref (x + 2), .int (iI 0)])), (x + 2, .inl (dA 0, 32, .inl (arI (fun _ => 0)))), (x + 3, .inr (5, [.ref (x + 4), .int (iI 0)])), (x + 4, .inl (dA 0, 32, .inl (arI (fun _ => 0))))] : va_W) H := hP
  have hD : va_D A ([(x, .inr (0, [.null, .ref (x + 1), .ref (x + 3), .null, .null])), (x + 1, .inr (5, [.ref (x + 2), .int (iI 0)])), (x + 2, .inl (dA 0, 32, .inl (arI (fun _ => 0)))), (x + 3, .inr (5, [.ref (x + 4), .int (iI 0)])), (x + 4, .inl (dA 0, 32, .inl (arI (fun _ => 0))))] : va_W) := hD
  refine lv_aload_n hx hb dAr_init_26 rfl (lv_at hl 0 rfl) ?_
  refine W_sz (n := x + 5) (by omega) (by have h9 : x + 4 < H.size := (hP 4 _ rfl).lt; omega) (fun hz => ?_)
  refine va_newH (ci := 5) (fs := [.null, .int (iI 0)]) (C := "MacroReckoner$Whole") (T := TWh) (N := 2) hx hb hts inWh tyWh tyWh_ok hown (hts _ wt1_140) (hts _ wt1_87) (hts _ wt1_5) hK hP hD hS hA rfl (by decide +kernel) (by show _ ≤ 8; omega) (by show _ ≤ 136; omega) dAr_init_27 hz (fun H hP hD hS hz => ?_)
  have hP : va_P (dC, dI) vwCl ([(x, .inr (0, [.null, .ref (x + 1), .ref (x + 3), .null, .null])), (x + 1, .inr (5, [.ref (x + 2), .int (iI 0)])), (x + 2, .inl (dA 0, 32, .inl (arI (fun _ => 0)))), (x + 3, .inr (5, [.ref (x + 4), .int (iI 0)])), (x + 4, .inl (dA 0, 32, .inl (arI (fun _ => 0)))), (x + 5, .inr (5, [.null, .int (iI 0)]))] : va_W) H := hP
  have hD : va_D A ([(x, .inr (0, [.null, .ref (x + 1), .ref (x + 3), .null, .null])), (x + 1, .inr (5, [.ref (x + 2), .int (iI 0)])), (x + 2, .inl (dA 0, 32, .inl (arI (fun _ => 0)))), (x + 3, .inr (5, [.ref (x + 4), .int (iI 0)])), (x + 4, .inl (dA 0, 32, .inl (arI (fun _ => 0)))), (x + 5, .inr (5, [.null, .int (iI 0)]))] : va_W) := hD
  refine lv_dup hx hb dAr_init_30 rfl ?_
  refine cvN (wr := [(x, .inr (0, [.null, .ref (x + 1), .ref (x + 3), .null, .null])), (x + 1, .inr (5, [.ref (x + 2), .int (iI 0)])), (x + 2, .inl (dA 0, 32, .inl (arI (fun _ => 0)))), (x + 3, .inr (5, [.ref (x + 4), .int (iI 0)])), (x + 4, .inl (dA 0, 32, .inl (arI (fun _ => 0))))]) (wc := [(x + 5, .inr (5, [.null, .int (iI 0)]))]) (va_runIN (As := []) (rest := [.ref (x + 5), .ref x]) ⟨hx, hb, hml, hown, hts⟩ (cWh_init l dC dI dA (x + 5)  H.size hz) ⟨va_cnB (host := "MacroReckoner") 0 hts (gd wt1_90) rfl rfl rfl (nM_3 hX.1) (hts _ wt1_5) ⟨by decide, by decide, by decide +kernel⟩ ⟨by decide, by decide⟩, rfl, hts _ wt1_89⟩ (preE (wr := [(x, .inr (0, [.null, .ref (x + 1), .ref (x + 3), .null, .null])), (x + 1, .inr (5, [.ref (x + 2), .int (iI 0)])), (x + 2, .inl (dA 0, 32, .inl (arI (fun _ => 0)))), (x + 3, .inr (5, [.ref (x + 4), .int (iI 0)])), (x + 4, .inl (dA 0, 32, .inl (arI (fun _ => 0))))]) hK hP hD hS hA XY_ok hX) rfl rfl hl.1 rfl (lv_room (Nat.le_of_ble_eq_true rfl)) dAr_init_31 ⟨by show _ ≤ 8; omega, by show _ ≤ 136; omega⟩) hP hD hS hA (fun H locs hP hD hS => ?_)
  have hP : va_P (dC, dI) vwCl ([(x, .inr (0, [.null, .ref (x + 1), .ref (x + 3), .null, .null])), (x + 1, .inr (5, [.ref (x + 2), .int (iI 0)])), (x + 2, .inl (dA 0, 32, .inl (arI (fun _ => 0)))), (x + 3, .inr (5, [.ref (x + 4), .int (iI 0)])), (x + 4, .inl (dA 0, 32, .inl (arI (fun _ => 0)))), (x + 5, .inr (5, [.ref (x + 6), .int (iI 0)])), (x + 6, .inl (dA 0, 32, .inl (arI (fun _ => 0))))] : va_W) H := hP
  have hD : va_D A ([(x, .inr (0, [.null, .ref (x + 1), .ref (x + 3), .null, .null])), (x + 1, .inr (5, [.ref (x + 2), .int (iI 0)])), (x + 2, .inl (dA 0, 32, .inl (arI (fun _ => 0)))), (x + 3, .inr (5, [.ref (x + 4), .int (iI 0)])), (x + 4, .inl (dA 0, 32, .inl (arI (fun _ => 0)))), (x + 5, .inr (5, [.ref (x + 6), .int (iI 0)])), (x + 6, .inl (dA 0, 32, .inl (arI (fun _ => 0))))] : va_W) := hD
  refine va_putF (D := (dC, dI)) (ci := 0) (v := .ref (x + 5)) (ty := (.object "MacroReckoner$Whole")) (C := "MacroReckoner$Arithmetic") (T := TAr) (N := 5) hx hb hts inAr tyAr tyAr_ok nmAr hown hK hP hD hS 0 rfl rfl 3 (by decide) (hts _ wt1_145) (fun _ h9 => h9) rfl hnm rfl (by decide +kernel) rfl rfl (Nat.le_of_ble_eq_true rfl) dAr_init_34 (fun H locs hP hD hS => ?_)
  have hP : va_P (dC, dI) vwCl ([(x, .inr (0, [.null, .ref (x + 1), .ref (x + 3), .ref (x + 5), .null])), (x + 1, .inr (5, [.ref (x + 2), .int (iI 0)])), (x + 2, .inl (dA 0, 32, .inl (arI (fun _ => 0)))), (x + 3, .inr (5, [.ref (x + 4), .int (iI 0)])), (x + 4, .inl (dA 0, 32, .inl (arI (fun _ => 0)))), (x + 5, .inr (5, [.ref (x + 6), .int (iI 0)])), (x + 6, .inl (dA 0, 32, .inl (arI (fun _ => 0))))] : va_W) H := hP
  have hD : va_D A ([(x, .inr (0, [.null, .ref (x + 1), .ref (x + 3), .ref (x + 5), .null])), (x + 1, .inr (5, [.ref (x + 2), .int (iI 0)])), (x + 2, .inl (dA 0, 32, .inl (arI (fun _ => 0)))), (x + 3, .inr (5, [.ref (x + 4), .int (iI 0)])), (x + 4, .inl (dA 0, 32, .inl (arI (fun _ => 0)))), (x + 5, .inr (5, [.ref (x + 6), .int (iI 0)])), (x + 6, .inl (dA 0, 32, .inl (arI (fun _ => 0))))] : va_W) := hD
  refine lv_aload_n hx hb dAr_init_37 rfl (lv_at hl 0 rfl) ?_
  refine W_sz (n := x + 7) (by omega) (by have h9 : x + 6 < H.size := (hP 6 _ rfl).lt; omega) (fun hz => ?_)
  refine va_newH (ci := 5) (fs := [.null, .int (iI 0)]) (C := "MacroReckoner$Whole") (T := TWh) (N := 2) hx hb hts inWh tyWh tyWh_ok hown (hts _ wt1_140) (hts _ wt1_87) (hts _ wt1_5) hK hP hD hS hA rfl (by decide +kernel) (by show _ ≤ 8; omega) (by show _ ≤ 136; omega) dAr_init_38 hz (fun H hP hD hS hz => ?_)
  have hP : va_P (dC, dI) vwCl ([(x, .inr (0, [.null, .ref (x + 1), .ref (x + 3), .ref (x + 5), .null])), (x + 1, .inr (5, [.ref (x + 2), .int (iI 0)])), (x + 2, .inl (dA 0, 32, .inl (arI (fun _ => 0)))), (x + 3, .inr (5, [.ref (x + 4), .int (iI 0)])), (x + 4, .inl (dA 0, 32, .inl (arI (fun _ => 0)))), (x + 5, .inr (5, [.ref (x + 6), .int (iI 0)])), (x + 6, .inl (dA 0, 32, .inl (arI (fun _ => 0)))), (x + 7, .inr (5, [.null, .int (iI 0)]))] : va_W) H := hP
  have hD : va_D A ([(x, .inr (0, [.null, .ref (x + 1), .ref (x + 3), .ref (x + 5), .null])), (x + 1, .inr (5, [.ref (x + 2), .int (iI 0)])), (x + 2, .inl (dA 0, 32, .inl (arI (fun _ => 0)))), (x + 3, .inr (5, [.ref (x + 4), .int (iI 0)])), (x + 4, .inl (dA 0, 32, .inl (arI (fun _ => 0)))), (x + 5, .inr (5, [.ref (x + 6), .int (iI 0)])), (x + 6, .inl (dA 0, 32, .inl (arI (fun _ => 0)))), (x + 7, .inr (5, [.null, .int (iI 0)]))] : va_W) := hD
  refine lv_dup hx hb dAr_init_41 rfl ?_
  refine cvN (wr := [(x, .inr (0, [.null, .ref (x + 1), .ref (x + 3), .ref (x + 5), .null])), (x + 1, .inr (5, [.ref (x + 2), .int (iI 0)])), (x + 2, .inl (dA 0, 32, .inl (arI (fun _ => 0)))), (x + 3, .inr (5, [.ref (x + 4), .int (iI 0)])), (x + 4, .inl (dA 0, 32, .inl (arI (fun _ => 0)))), (x + 5, .inr (5, [.ref (x + 6), .int (iI 0)])), (x + 6, .inl (dA 0, 32, .inl (arI (fun _ => 0))))]) (wc := [(x + 7, .inr (5, [.null, .int (iI 0)]))]) (va_runIN (As := []) (rest := [.ref (x + 7), .ref x]) ⟨hx, hb, hml, hown, hts⟩ (cWh_init l dC dI dA (x + 7)  H.size hz) ⟨va_cnB (host := "MacroReckoner") 0 hts (gd wt1_90) rfl rfl rfl (nM_3 hX.1) (hts _ wt1_5) ⟨by decide, by decide, by decide +kernel⟩ ⟨by decide, by decide⟩, rfl, hts _ wt1_89⟩ (preE (wr := [(x, .inr (0, [.null, .ref (x + 1), .ref (x + 3), .ref (x + 5), .null])), (x + 1, .inr (5, [.ref (x + 2), .int (iI 0)])), (x + 2, .inl (dA 0, 32, .inl (arI (fun _ => 0)))), (x + 3, .inr (5, [.ref (x + 4), .int (iI 0)])), (x + 4, .inl (dA 0, 32, .inl (arI (fun _ => 0)))), (x + 5, .inr (5, [.ref (x + 6), .int (iI 0)])), (x + 6, .inl (dA 0, 32, .inl (arI (fun _ => 0))))]) hK hP hD hS hA XY_ok hX) rfl rfl hl.1 rfl (lv_room (Nat.le_of_ble_eq_true rfl)) dAr_init_42 ⟨by show _ ≤ 8; omega, by show _ ≤ 136; omega⟩) hP hD hS hA (fun H locs hP hD hS => ?_)
  have hP : va_P (dC, dI) vwCl ([(x, .inr (0, [.null, .ref (x + 1), .ref (x + 3), .ref (x + 5), .null])), (x + 1, .inr (5, [.ref (x + 2), .int (iI 0)])), (x + 2, .inl (dA 0, 32, .inl (arI (fun _ => 0)))), (x + 3, .inr (5, [.ref (x + 4), .int (iI 0)])), (x + 4, .inl (dA 0, 32, .inl (arI (fun _ => 0)))), (x + 5, .inr (5, [.ref (x + 6), .int (iI 0)])), (x + 6, .inl (dA 0, 32, .inl (arI (fun _ => 0)))), (x + 7, .inr (5, [.ref (x + 8), .int (iI 0)])), (x + 8, .inl (dA 0, 32, .inl (arI (fun _ => 0))))] : va_W) H := hP
  have hD : va_D A ([(x, .inr (0, [.null, .ref (x + 1), .ref (x + 3), .ref (x + 5), .null])), (x + 1, .inr (5, [.ref (x + 2), .int (iI 0)])), (x + 2, .inl (dA 0, 32, .inl (arI (fun _ => 0)))), (x + 3, .inr (5, [.ref (x + 4), .int (iI 0)])), (x + 4, .inl (dA 0, 32, .inl (arI (fun _ => 0)))), (x + 5, .inr (5, [.ref (x + 6), .int (iI 0)])), (x + 6, .inl (dA 0, 32, .inl (arI (fun _ => 0)))), (x + 7, .inr (5, [.ref (x + 8), .int (iI 0)])), (x + 8, .inl (dA 0, 32, .inl (arI (fun _ => 0))))] : va_W) := hD
  refine va_putF (D := (dC, dI)) (ci := 0) (v := .ref (x + 7)) (ty := (.object "MacroReckoner$Whole")) (C := "MacroReckoner$Arithmetic") (T := TAr) (N := 5) hx hb hts inAr tyAr tyAr_ok nmAr hown hK hP hD hS 0 rfl rfl 4 (by decide) (hts _ wt1_146) (fun _ h9 => h9) rfl hnm rfl (by decide +kernel) rfl rfl (Nat.le_of_ble_eq_true rfl) dAr_init_45 (fun H locs hP hD hS => ?_)
  have hP : va_P (dC, dI) vwCl ([(x, .inr (0, [.null, .ref (x + 1), .ref (x + 3), .ref (x + 5), .ref (x + 7)])), (x + 1, .inr (5, [.ref (x + 2), .int (iI 0)])), (x + 2, .inl (dA 0, 32, .inl (arI (fun _ => 0)))), (x + 3, .inr (5, [.ref (x + 4), .int (iI 0)])), (x + 4, .inl (dA 0, 32, .inl (arI (fun _ => 0)))), (x + 5, .inr (5, [.ref (x + 6), .int (iI 0)])), (x + 6, .inl (dA 0, 32, .inl (arI (fun _ => 0)))), (x + 7, .inr (5, [.ref (x + 8), .int (iI 0)])), (x + 8, .inl (dA 0, 32, .inl (arI (fun _ => 0))))] : va_W) H := hP
  have hD : va_D A ([(x, .inr (0, [.null, .ref (x + 1), .ref (x + 3), .ref (x + 5), .ref (x + 7)])), (x + 1, .inr (5, [.ref (x + 2), .int (iI 0)])), (x + 2, .inl (dA 0, 32, .inl (arI (fun _ => 0)))), (x + 3, .inr (5, [.ref (x + 4), .int (iI 0)])), (x + 4, .inl (dA 0, 32, .inl (arI (fun _ => 0)))), (x + 5, .inr (5, [.ref (x + 6), .int (iI 0)])), (x + 6, .inl (dA 0, 32, .inl (arI (fun _ => 0)))), (x + 7, .inr (5, [.ref (x + 8), .int (iI 0)])), (x + 8, .inl (dA 0, 32, .inl (arI (fun _ => 0))))] : va_W) := hD
  refine lv_aload_n hx hb dAr_init_48 rfl (lv_at hl 0 rfl) ?_
  refine lv_aload_n hx hb dAr_init_49 rfl (lv_at hl 1 rfl) ?_
  refine va_putF (D := (dC, dI)) (ci := 0) (v := .ref rs) (ty := (.object "MacroReckoner$Value")) (C := "MacroReckoner$Arithmetic") (T := TAr) (N := 5) hx hb hts inAr tyAr tyAr_ok nmAr hown hK hP hD hS 0 rfl rfl 0 (by decide) (hts _ wt1_142) (fun _ h9 => h9) rfl hnm rfl (by decide +kernel) rfl rfl (Nat.le_of_ble_eq_true rfl) dAr_init_50 (fun H locs hP hD hS => ?_)
  have hP : va_P (dC, dI) vwCl ([(x, .inr (0, [.ref rs, .ref (x + 1), .ref (x + 3), .ref (x + 5), .ref (x + 7)])), (x + 1, .inr (5, [.ref (x + 2), .int (iI 0)])), (x + 2, .inl (dA 0, 32, .inl (arI (fun _ => 0)))), (x + 3, .inr (5, [.ref (x + 4), .int (iI 0)])), (x + 4, .inl (dA 0, 32, .inl (arI (fun _ => 0)))), (x + 5, .inr (5, [.ref (x + 6), .int (iI 0)])), (x + 6, .inl (dA 0, 32, .inl (arI (fun _ => 0)))), (x + 7, .inr (5, [.ref (x + 8), .int (iI 0)])), (x + 8, .inl (dA 0, 32, .inl (arI (fun _ => 0))))] : va_W) H := hP
  have hD : va_D A ([(x, .inr (0, [.ref rs, .ref (x + 1), .ref (x + 3), .ref (x + 5), .ref (x + 7)])), (x + 1, .inr (5, [.ref (x + 2), .int (iI 0)])), (x + 2, .inl (dA 0, 32, .inl (arI (fun _ => 0)))), (x + 3, .inr (5, [.ref (x + 4), .int (iI 0)])), (x + 4, .inl (dA 0, 32, .inl (arI (fun _ => 0)))), (x + 5, .inr (5, [.ref (x + 6), .int (iI 0)])), (x + 6, .inl (dA 0, 32, .inl (arI (fun _ => 0)))), (x + 7, .inr (5, [.ref (x + 8), .int (iI 0)])), (x + 8, .inl (dA 0, 32, .inl (arI (fun _ => 0))))] : va_W) := hD
  exact rt_v hx hb hr hlocks hK hS dAr_init_53 () hP hD trivial
