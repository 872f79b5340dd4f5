theorem dTo_measureText_0 : decode prog_5_method_5_code 0 = .ok (.iconst 0, 1) := by decide +kernel
theorem dTo_measureText_1 : decode prog_5_method_5_code 1 = .ok (.istore_n 1, 1) := by decide +kernel
theorem dTo_measureText_2 : decode prog_5_method_5_code 2 = .ok (.aload_n 0, 1) := by decide +kernel
theorem dTo_measureText_3 : decode prog_5_method_5_code 3 = .ok (.getfield 23, 3) := by decide +kernel
theorem dTo_measureText_6 : decode prog_5_method_5_code 6 = .ok (.istore_n 2, 1) := by decide +kernel
theorem dTo_measureText_7 : decode prog_5_method_5_code 7 = .ok (.iload_n 2, 1) := by decide +kernel
theorem dTo_measureText_8 : decode prog_5_method_5_code 8 = .ok (.aload_n 0, 1) := by decide +kernel
theorem dTo_measureText_9 : decode prog_5_method_5_code 9 = .ok (.getfield 26, 3) := by decide +kernel
theorem dTo_measureText_12 : decode prog_5_method_5_code 12 = .ok (.if_icmp .ge 58, 3) := by decide +kernel
theorem dTo_measureText_15 : decode prog_5_method_5_code 15 = .ok (.aload_n 0, 1) := by decide +kernel
theorem dTo_measureText_16 : decode prog_5_method_5_code 16 = .ok (.getfield 19, 3) := by decide +kernel
theorem dTo_measureText_19 : decode prog_5_method_5_code 19 = .ok (.iload_n 2, 1) := by decide +kernel
theorem dTo_measureText_20 : decode prog_5_method_5_code 20 = .ok (.caload, 1) := by decide +kernel
theorem dTo_measureText_21 : decode prog_5_method_5_code 21 = .ok (.bipush 91, 2) := by decide +kernel
theorem dTo_measureText_23 : decode prog_5_method_5_code 23 = .ok (.if_icmp .ne 9, 3) := by decide +kernel
theorem dTo_measureText_26 : decode prog_5_method_5_code 26 = .ok (.iinc 1 1, 3) := by decide +kernel
theorem dTo_measureText_29 : decode prog_5_method_5_code 29 = .ok (.goto 17, 3) := by decide +kernel
theorem dTo_measureText_32 : decode prog_5_method_5_code 32 = .ok (.aload_n 0, 1) := by decide +kernel
theorem dTo_measureText_33 : decode prog_5_method_5_code 33 = .ok (.getfield 19, 3) := by decide +kernel
theorem dTo_measureText_36 : decode prog_5_method_5_code 36 = .ok (.iload_n 2, 1) := by decide +kernel
theorem dTo_measureText_37 : decode prog_5_method_5_code 37 = .ok (.caload, 1) := by decide +kernel
theorem dTo_measureText_38 : decode prog_5_method_5_code 38 = .ok (.bipush 93, 2) := by decide +kernel
theorem dTo_measureText_40 : decode prog_5_method_5_code 40 = .ok (.if_icmp .ne 6, 3) := by decide +kernel
theorem dTo_measureText_43 : decode prog_5_method_5_code 43 = .ok (.iinc 1 (-1), 3) := by decide +kernel
theorem dTo_measureText_46 : decode prog_5_method_5_code 46 = .ok (.iload_n 1, 1) := by decide +kernel
theorem dTo_measureText_47 : decode prog_5_method_5_code 47 = .ok (.ifCond .ne 17, 3) := by decide +kernel
theorem dTo_measureText_50 : decode prog_5_method_5_code 50 = .ok (.aload_n 0, 1) := by decide +kernel
theorem dTo_measureText_51 : decode prog_5_method_5_code 51 = .ok (.iload_n 2, 1) := by decide +kernel
theorem dTo_measureText_52 : decode prog_5_method_5_code 52 = .ok (.aload_n 0, 1) := by decide +kernel
theorem dTo_measureText_53 : decode prog_5_method_5_code 53 = .ok (.getfield 23, 3) := by decide +kernel
theorem dTo_measureText_56 : decode prog_5_method_5_code 56 = .ok (.isub, 1) := by decide +kernel
theorem dTo_measureText_57 : decode prog_5_method_5_code 57 = .ok (.iconst 1, 1) := by decide +kernel
theorem dTo_measureText_58 : decode prog_5_method_5_code 58 = .ok (.iadd, 1) := by decide +kernel
theorem dTo_measureText_59 : decode prog_5_method_5_code 59 = .ok (.putfield 29, 3) := by decide +kernel
theorem dTo_measureText_62 : decode prog_5_method_5_code 62 = .ok (.iconst 0, 1) := by decide +kernel
theorem dTo_measureText_63 : decode prog_5_method_5_code 63 = .ok (.ireturn, 1) := by decide +kernel
theorem dTo_measureText_64 : decode prog_5_method_5_code 64 = .ok (.iinc 2 1, 3) := by decide +kernel
theorem dTo_measureText_67 : decode prog_5_method_5_code 67 = .ok (.goto (-60), 3) := by decide +kernel
theorem dTo_measureText_70 : decode prog_5_method_5_code 70 = .ok (.iconst 1, 1) := by decide +kernel
theorem dTo_measureText_71 : decode prog_5_method_5_code 71 = .ok (.ireturn, 1) := by decide +kernel
abbrev qTo_measureText (dC : Nat → ClassId) (dI : Nat → Nat → Nat) (dA : Nat → ClassId) (to : Nat) (cm : Int) (rg : Int) (st0 : Int) (en0 : Int) (lg : Int) (tr : Nat) (nn : Nat) (D : Int → Int) (A : Nat → Prop) : Array Value → State → Outcome → State → Prop := QI (dC, dI) vwCl (tyA dA) (fun (r : Int) (v_ : Int) => (r = 0 ∧ txR D st0 en0 v_) ∨ (r = 1 ∧ v_ = lg ∧ txN D st0 en0)) (fun (v_ : Int) => wTo dA to cm rg ((.ref tr)) st0 en0 v_ (wCh dA tr nn D [])) A
abbrev rmTo_measureText : Room := { frames := 0, cells := 0, slots := 0, locals := 0 }
set_option maxRecDepth 100000 in
set_option maxHeartbeats 1000000 in
theorem cTo_measureText (l : Launch) (dC : Nat → ClassId) (dI : Nat → Nat → Nat) (dA : Nat → ClassId) (to : Nat) (cm : Int) (rg : Int) (st0 : Int) (en0 : Int) (lg : Int) (tr : Nat) (nn : Nat) (D : Int → Int) (hT : TP nn D st0 en0) (hse : st0 < en0) (sz : Nat) : Met l yTo_measureText wsTo_measureText rmTo_measureText (PC (dC, dI) vwCl (tyA dA) XN [.ref to] (wTo dA to cm rg ((.ref tr)) st0 en0 lg (wCh dA tr nn D [])) sz) (qTo_measureText dC dI dA to cm rg st0 en0 lg tr nn D (va_A (wTo dA to cm rg ((.ref tr)) st0 en0 lg (wCh dA tr nn D [])) sz)) 0 0 (va_A (wTo dA to cm rg ((.ref tr)) st0 en0 lg (wCh dA tr nn D [])) sz) := by
  refine met_of (cc := prog_5_method_5_code) (maxL := 3) (ret := (some .boolean)) (Qc := qTo_measureText dC dI dA to cm rg st0 en0 lg tr nn D) XN_ok (by decide) rfl (Nat.le_of_ble_eq_true rfl) ?_
  intro p e s m below meth c ls A hx hb hr hml hown hts hlocks hnm hK hP hD hA hX hS hl
  have hl : lv_has ls 3 [(0, .ref to)] := hl
  have hown : s.vm.findClass "MacroReckoner$Token" = some m.cls := hown
  obtain ⟨H, hH⟩ : ∃ H : Heap, H = s.heap := ⟨_, rfl⟩
  obtain ⟨locs, hlo⟩ : ∃ L : List Loc, L = [] := ⟨_, rfl⟩
  have hP : va_P (dC, dI) vwCl (wTo dA to cm rg ((.ref tr)) st0 en0 lg (wCh dA tr nn D [])) H := hH ▸ hP
  have hS : va_S A s.heap H locs := by rw [hH, hlo]; exact hS
  suffices hgo : W p l e rmTo_measureText s m [.ref to].toArray below meth c H locs 0 0 (MQ below (qTo_measureText dC dI dA to cm rg st0 en0 lg tr nn D A) [.ref to].toArray s 0 0 A) (F0 m 0 ls []) by rw [hH, hlo] at hgo; exact hgo
  clear hH hlo
  refine lv_iconst (v := iI 0) hx hb dTo_measureText_0 rfl ?_
  refine lv_istore_n (lv' := [(1, .int (iI 0)), (0, .ref to)]) hx hb dTo_measureText_1 rfl hl (by decide) rfl (fun ls hl => ?_)
  refine lv_aload_n hx hb dTo_measureText_2 rfl (lv_at hl 1 rfl) ?_
  refine va_get (D := (dC, dI)) (ci := 3) (v := .int (iI st0)) (C := "MacroReckoner$Token") (T := TTo) (N := 6) hx hb hts inTo hown hK hP 0 rfl rfl 3 (by decide) (hts _ wt1_61) (fun _ h9 => h9) rfl dTo_measureText_3 ?_
  refine lv_istore_n (lv' := [(2, .int (iI st0)), (1, .int (iI 0)), (0, .ref to)]) hx hb dTo_measureText_6 rfl hl (by decide) rfl (fun ls hl => ?_)
  have L7 : ∀ (n : Nat) (op : Int) (i : Int) (H : Heap) (locs : List Loc) (ls : Array Slot), (st0 ≤ i ∧ i ≤ en0) → (op = brk D st0 (i - st0).toNat) → (-(i - st0) ≤ op ∧ op ≤ i - st0) → (∀ j, 1 ≤ j → j ≤ i - st0 → brk D st0 j.toNat ≠ 0) → (en0 - i).toNat < n → va_P (dC, dI) vwCl (wTo dA to cm rg ((.ref tr)) st0 en0 lg (wCh dA tr nn D [])) H → va_D A (wTo dA to cm rg ((.ref tr)) st0 en0 lg (wCh dA tr nn D [])) → va_S A s.heap H locs → lv_has ls 3 [(2, .int (iI i)), (1, .int (iI op)), (0, .ref to)] → W p l e rmTo_measureText s m [.ref to].toArray below meth c H locs 0 0 (MQ below (qTo_measureText dC dI dA to cm rg st0 en0 lg tr nn D A) [.ref to].toArray s 0 0 A) (F0 m 7 ls []) := by
    intro n
    induction n with
    | zero => intro op i H locs ls hi hop hob hnz hn; omega
    | succ n ih =>
      intro op i H locs ls hi hop hob hnz hn hP hD hS hl
      obtain ⟨ht0, ht1, ht2, ht3, ht4⟩ := hT
      have ih7 := ih
      refine lv_iload_n hx hb dTo_measureText_7 rfl (lv_at hl 0 rfl) ?_
      refine lv_aload_n hx hb dTo_measureText_8 rfl (lv_at hl 2 rfl) ?_
      refine va_get (D := (dC, dI)) (ci := 3) (v := .int (iI en0)) (C := "MacroReckoner$Token") (T := TTo) (N := 6) hx hb hts inTo hown hK hP 0 rfl rfl 4 (by decide) (hts _ wt1_63) (fun _ h9 => h9) rfl dTo_measureText_9 ?_
      refine iv_icmp_ge (tgt := 70) hx hb dTo_measureText_12 (by decide) ⟨by omega, by omega⟩ ⟨by omega, by omega⟩ (fun hc12 => ?_) (fun hc12 => ?_)
      · refine lv_iconst (v := iI 1) hx hb dTo_measureText_70 rfl ?_
        exact rt_z hx hb hr hlocks hK hS dTo_measureText_71 (nrw_bool (by omega)) (lg) hP hD (show (1 = 0 ∧ txR D st0 en0 lg) ∨ (1 = 1 ∧ lg = lg ∧ txN D st0 en0) from by exact Or.inr ⟨rfl, rfl, fun j x y => hnz j x (by omega)⟩)
      · have hdi := ht4 i hi.1 hc12
        have hbs := brk_s (D := D) (p := st0) (i := i - st0) (by omega)
        rw [show st0 + (i - st0) = i by omega, show i - st0 + 1 = i + 1 - st0 by omega, ← hop] at hbs
        refine lv_aload_n hx hb dTo_measureText_15 rfl (lv_at hl 2 rfl) ?_
        refine va_get (D := (dC, dI)) (ci := 3) (v := .ref tr) (C := "MacroReckoner$Token") (T := TTo) (N := 6) hx hb hts inTo hown hK hP 0 rfl rfl 2 (by decide) (hts _ wt1_59) (fun _ h9 => h9) rfl dTo_measureText_16 ?_
        refine lv_iload_n hx hb dTo_measureText_19 rfl (lv_at hl 0 rfl) ?_
        refine iv_cald hx hb hK hP 1 1 rfl rfl (by omega) dTo_measureText_20 (by omega) (by omega) ?_
        refine lv_bipush (v := iI 91) hx hb dTo_measureText_21 (by decide) ?_
        refine iv_icmp_ne (tgt := 32) hx hb dTo_measureText_23 (by decide) ⟨by omega, by omega⟩ ⟨by decide, by decide⟩ (fun hc23 => ?_) (fun hc23 => ?_)
        · refine lv_aload_n hx hb dTo_measureText_32 rfl (lv_at hl 2 rfl) ?_
          refine va_get (D := (dC, dI)) (ci := 3) (v := .ref tr) (C := "MacroReckoner$Token") (T := TTo) (N := 6) hx hb hts inTo hown hK hP 0 rfl rfl 2 (by decide) (hts _ wt1_59) (fun _ h9 => h9) rfl dTo_measureText_33 ?_
          refine lv_iload_n hx hb dTo_measureText_36 rfl (lv_at hl 0 rfl) ?_
          refine iv_cald hx hb hK hP 1 1 rfl rfl (by omega) dTo_measureText_37 (by omega) (by omega) ?_
          refine lv_bipush (v := iI 93) hx hb dTo_measureText_38 (by decide) ?_
          refine iv_icmp_ne (tgt := 46) hx hb dTo_measureText_40 (by decide) ⟨by omega, by omega⟩ ⟨by decide, by decide⟩ (fun hc40 => ?_) (fun hc40 => ?_)
          · obtain ⟨op9, e_op9⟩ : ∃ z : Int, z = op := ⟨_, rfl⟩
            rw [← e_op9] at hl
            have hbv : op9 = brk D st0 (i + 1 - st0).toNat := by rw [hbs, e_op9]; unfold brs; first | (rw [if_pos (by omega)]; done) | (rw [if_neg (by omega), if_pos (by omega)]; omega) | (rw [if_neg (by omega), if_neg (by omega)]; omega)
            refine lv_iload_n hx hb dTo_measureText_46 rfl (lv_at hl 1 rfl) ?_
            refine iv_if_ne (tgt := 64) hx hb dTo_measureText_47 (by decide) ⟨by omega, by omega⟩ (fun hc47 => ?_) (fun hc47 => ?_)
            · refine lv_iinc (k := 0) (lv' := [(2, .int (iI (i + 1))), (1, .int (iI op9)), (0, .ref to)]) (v := iI (i + 1)) hx hb dTo_measureText_64 hl rfl (iI_add _ _).symm (by decide) rfl (fun ls hl => ?_)
              refine lv_goto (tgt := 7) hx hb dTo_measureText_67 (by decide) ?_
              exact ih7 op9 (i + 1) H locs ls (by omega) (by exact hbv) (by omega) (by intro j x y; rcases (show j ≤ i - st0 ∨ j = i + 1 - st0 by omega) with z | z; exact hnz j x z; rw [z, ← hbv]; exact hc47) (by omega) hP hD hS (lv_sub hl [0, 1, 2] rfl)
            · refine lv_aload_n hx hb dTo_measureText_50 rfl (lv_at hl 2 rfl) ?_
              refine lv_iload_n hx hb dTo_measureText_51 rfl (lv_at hl 0 rfl) ?_
              refine lv_aload_n hx hb dTo_measureText_52 rfl (lv_at hl 2 rfl) ?_
              refine va_get (D := (dC, dI)) (ci := 3) (v := .int (iI st0)) (C := "MacroReckoner$Token") (T := TTo) (N := 6) hx hb hts inTo hown hK hP 0 rfl rfl 3 (by decide) (hts _ wt1_61) (fun _ h9 => h9) rfl dTo_measureText_53 ?_
              refine iv_isub hx hb dTo_measureText_56 ?_
              refine lv_iconst (v := iI 1) hx hb dTo_measureText_57 rfl ?_
              refine iv_iadd hx hb dTo_measureText_58 ?_
              refine va_put (D := (dC, dI)) (ci := 3) (v := .int (iI ((i - st0) + 1))) (ty := .int) (C := "MacroReckoner$Token") (T := TTo) (N := 6) hx hb hts inTo tyTo tyTo_ok nmTo hown hK hP hD hS 0 rfl rfl 5 (by decide) (hts _ wt1_64) (fun _ h9 => h9) rfl (by decide +kernel) rfl rfl (Nat.le_of_ble_eq_true rfl) dTo_measureText_59 (fun H locs hP hD hS => ?_)
              have hP : va_P (dC, dI) vwCl (wTo dA to cm rg ((.ref tr)) st0 en0 ((i - st0) + 1) (wCh dA tr nn D [])) H := hP
              have hD : va_D A (wTo dA to cm rg ((.ref tr)) st0 en0 ((i - st0) + 1) (wCh dA tr nn D [])) := hD
              refine lv_iconst (v := iI 0) hx hb dTo_measureText_62 rfl ?_
              exact rt_z hx hb hr hlocks hK hS dTo_measureText_63 (nrw_bool (by omega)) ((i - st0) + 1) hP hD (show (0 = 0 ∧ txR D st0 en0 ((i - st0) + 1)) ∨ (0 = 1 ∧ ((i - st0) + 1) = lg ∧ txN D st0 en0) from by refine Or.inl ⟨rfl, by omega, by omega, ?_, fun j x y => hnz j x (by omega)⟩; rw [show i - st0 + 1 = i + 1 - st0 by omega, ← hbv]; exact hc47)
          · refine lv_iinc (k := 1) (lv' := [(1, .int (iI (op - 1))), (2, .int (iI i)), (0, .ref to)]) (v := iI (op - 1)) hx hb dTo_measureText_43 hl rfl (by rw [show (Int32.ofInt (-1)) = iI (-1) from rfl, ← iI_add]; congr 1) (by decide) rfl (fun ls hl => ?_)
            obtain ⟨op9, e_op9⟩ : ∃ z : Int, z = op - 1 := ⟨_, rfl⟩
            rw [← e_op9] at hl
            have hbv : op9 = brk D st0 (i + 1 - st0).toNat := by rw [hbs, e_op9]; unfold brs; first | (rw [if_pos (by omega)]; done) | (rw [if_neg (by omega), if_pos (by omega)]; omega) | (rw [if_neg (by omega), if_neg (by omega)]; omega)
            refine lv_iload_n hx hb dTo_measureText_46 rfl (lv_at hl 0 rfl) ?_
            refine iv_if_ne (tgt := 64) hx hb dTo_measureText_47 (by decide) ⟨by omega, by omega⟩ (fun hc47 => ?_) (fun hc47 => ?_)
            · refine lv_iinc (k := 1) (lv' := [(2, .int (iI (i + 1))), (1, .int (iI op9)), (0, .ref to)]) (v := iI (i + 1)) hx hb dTo_measureText_64 hl rfl (iI_add _ _).symm (by decide) rfl (fun ls hl => ?_)
              refine lv_goto (tgt := 7) hx hb dTo_measureText_67 (by decide) ?_
              exact ih7 op9 (i + 1) H locs ls (by omega) (by exact hbv) (by omega) (by intro j x y; rcases (show j ≤ i - st0 ∨ j = i + 1 - st0 by omega) with z | z; exact hnz j x z; rw [z, ← hbv]; exact hc47) (by omega) hP hD hS (lv_sub hl [0, 1, 2] rfl)
            · refine lv_aload_n hx hb dTo_measureText_50 rfl (lv_at hl 2 rfl) ?_
              refine lv_iload_n hx hb dTo_measureText_51 rfl (lv_at hl 1 rfl) ?_
              refine lv_aload_n hx hb dTo_measureText_52 rfl (lv_at hl 2 rfl) ?_
              refine va_get (D := (dC, dI)) (ci := 3) (v := .int (iI st0)) (C := "MacroReckoner$Token") (T := TTo) (N := 6) hx hb hts inTo hown hK hP 0 rfl rfl 3 (by decide) (hts _ wt1_61) (fun _ h9 => h9) rfl dTo_measureText_53 ?_
              refine iv_isub hx hb dTo_measureText_56 ?_
              refine lv_iconst (v := iI 1) hx hb dTo_measureText_57 rfl ?_
              refine iv_iadd hx hb dTo_measureText_58 ?_
              refine va_put (D := (dC, dI)) (ci := 3) (v := .int (iI ((i - st0) + 1))) (ty := .int) (C := "MacroReckoner$Token") (T := TTo) (N := 6) hx hb hts inTo tyTo tyTo_ok nmTo hown hK hP hD hS 0 rfl rfl 5 (by decide) (hts _ wt1_64) (fun _ h9 => h9) rfl (by decide +kernel) rfl rfl (Nat.le_of_ble_eq_true rfl) dTo_measureText_59 (fun H locs hP hD hS => ?_)
              have hP : va_P (dC, dI) vwCl (wTo dA to cm rg ((.ref tr)) st0 en0 ((i - st0) + 1) (wCh dA tr nn D [])) H := hP
              have hD : va_D A (wTo dA to cm rg ((.ref tr)) st0 en0 ((i - st0) + 1) (wCh dA tr nn D [])) := hD
              refine lv_iconst (v := iI 0) hx hb dTo_measureText_62 rfl ?_
              exact rt_z hx hb hr hlocks hK hS dTo_measureText_63 (nrw_bool (by omega)) ((i - st0) + 1) hP hD (show (0 = 0 ∧ txR D st0 en0 ((i - st0) + 1)) ∨ (0 = 1 ∧ ((i - st0) + 1) = lg ∧ txN D st0 en0) from by refine Or.inl ⟨rfl, by omega, by omega, ?_, fun j x y => hnz j x (by omega)⟩; rw [show i - st0 + 1 = i + 1 - st0 by omega, ← hbv]; exact hc47)
        · refine lv_iinc (k := 1) (lv' := [(1, .int (iI (op + 1))), (2, .int (iI i)), (0, .ref to)]) (v := iI (op + 1)) hx hb dTo_measureText_26 hl rfl (iI_add _ _).symm (by decide) rfl (fun ls hl => ?_)
          refine lv_goto (tgt := 46) hx hb dTo_measureText_29 (by decide) ?_
          obtain ⟨op9, e_op9⟩ : ∃ z : Int, z = op + 1 := ⟨_, rfl⟩
          rw [← e_op9] at hl
          have hbv : op9 = brk D st0 (i + 1 - st0).toNat := by rw [hbs, e_op9]; unfold brs; first | (rw [if_pos (by omega)]; done) | (rw [if_neg (by omega), if_pos (by omega)]; omega) | (rw [if_neg (by omega), if_neg (by omega)]; omega)
          refine lv_iload_n hx hb dTo_measureText_46 rfl (lv_at hl 0 rfl) ?_
          refine iv_if_ne (tgt := 64) hx hb dTo_measureText_47 (by decide) ⟨by omega, by omega⟩ (fun hc47 => ?_) (fun hc47 => ?_)
          · refine lv_iinc (k := 1) (lv' := [(2, .int (iI (i + 1))), (1, .int (iI op9)), (0, .ref to)]) (v := iI (i + 1)) hx hb dTo_measureText_64 hl rfl (iI_add _ _).symm (by decide) rfl (fun ls hl => ?_)
            refine lv_goto (tgt := 7) hx hb dTo_measureText_67 (by decide) ?_
            exact ih7 op9 (i + 1) H locs ls (by omega) (by exact hbv) (by omega) (by intro j x y; rcases (show j ≤ i - st0 ∨ j = i + 1 - st0 by omega) with z | z; exact hnz j x z; rw [z, ← hbv]; exact hc47) (by omega) hP hD hS (lv_sub hl [0, 1, 2] rfl)
          · refine lv_aload_n hx hb dTo_measureText_50 rfl (lv_at hl 2 rfl) ?_
            refine lv_iload_n hx hb dTo_measureText_51 rfl (lv_at hl 1 rfl) ?_
            refine lv_aload_n hx hb dTo_measureText_52 rfl (lv_at hl 2 rfl) ?_
            refine va_get (D := (dC, dI)) (ci := 3) (v := .int (iI st0)) (C := "MacroReckoner$Token") (T := TTo) (N := 6) hx hb hts inTo hown hK hP 0 rfl rfl 3 (by decide) (hts _ wt1_61) (fun _ h9 => h9) rfl dTo_measureText_53 ?_
            refine iv_isub hx hb dTo_measureText_56 ?_
            refine lv_iconst (v := iI 1) hx hb dTo_measureText_57 rfl ?_
            refine iv_iadd hx hb dTo_measureText_58 ?_
            refine va_put (D := (dC, dI)) (ci := 3) (v := .int (iI ((i - st0) + 1))) (ty := .int) (C := "MacroReckoner$Token") (T := TTo) (N := 6) hx hb hts inTo tyTo tyTo_ok nmTo hown hK hP hD hS 0 rfl rfl 5 (by decide) (hts _ wt1_64) (fun _ h9 => h9) rfl (by decide +kernel) rfl rfl (Nat.le_of_ble_eq_true rfl) dTo_measureText_59 (fun H locs hP hD hS => ?_)
            have hP : va_P (dC, dI) vwCl (wTo dA to cm rg ((.ref tr)) st0 en0 ((i - st0) + 1) (wCh dA tr nn D [])) H := hP
            have hD : va_D A (wTo dA to cm rg ((.ref tr)) st0 en0 ((i - st0) + 1) (wCh dA tr nn D [])) := hD
            refine lv_iconst (v := iI 0) hx hb dTo_measureText_62 rfl ?_
            exact rt_z hx hb hr hlocks hK hS dTo_measureText_63 (nrw_bool (by omega)) ((i - st0) + 1) hP hD (show (0 = 0 ∧ txR D st0 en0 ((i - st0) + 1)) ∨ (0 = 1 ∧ ((i - st0) + 1) = lg ∧ txN D st0 en0) from by refine Or.inl ⟨rfl, by omega, by omega, ?_, fun j x y => hnz j x (by omega)⟩; rw [show i - st0 + 1 = i + 1 - st0 by omega, ← hbv]; exact hc47)
  exact L7 _ 0 st0 H locs ls (by omega) (by rw [show st0 - st0 = 0 by omega]; rfl) (by omega) (by intro j x y; omega) (Nat.lt_succ_self _) hP hD hS (lv_sub hl [0, 1, 2] rfl)

theorem dTo_measurePair_0 : decode prog_5_method_6_code 0 = .ok (.aload_n 0, 1) := by decide +kernel
theorem dTo_measurePair_1 : decode prog_5_method_6_code 1 = .ok (.getfield 23, 3) := by decide +kernel
theorem dTo_measurePair_4 : decode prog_5_method_6_code 4 = .ok (.iconst 1, 1) := by decide +kernel
theorem dTo_measurePair_5 : decode prog_5_method_6_code 5 = .ok (.iadd, 1) := by decide +kernel
theorem dTo_measurePair_6 : decode prog_5_method_6_code 6 = .ok (.aload_n 0, 1) := by decide +kernel
theorem dTo_measurePair_7 : decode prog_5_method_6_code 7 = .ok (.getfield 26, 3) := by decide +kernel
theorem dTo_measurePair_10 : decode prog_5_method_6_code 10 = .ok (.if_icmp .lt 5, 3) := by decide +kernel
theorem dTo_measurePair_13 : decode prog_5_method_6_code 13 = .ok (.iconst 1, 1) := by decide +kernel
theorem dTo_measurePair_14 : decode prog_5_method_6_code 14 = .ok (.ireturn, 1) := by decide +kernel
theorem dTo_measurePair_15 : decode prog_5_method_6_code 15 = .ok (.aload_n 0, 1) := by decide +kernel
theorem dTo_measurePair_16 : decode prog_5_method_6_code 16 = .ok (.iconst 2, 1) := by decide +kernel
theorem dTo_measurePair_17 : decode prog_5_method_6_code 17 = .ok (.putfield 29, 3) := by decide +kernel
theorem dTo_measurePair_20 : decode prog_5_method_6_code 20 = .ok (.aload_n 0, 1) := by decide +kernel
theorem dTo_measurePair_21 : decode prog_5_method_6_code 21 = .ok (.aload_n 0, 1) := by decide +kernel
theorem dTo_measurePair_22 : decode prog_5_method_6_code 22 = .ok (.getfield 19, 3) := by decide +kernel
theorem dTo_measurePair_25 : decode prog_5_method_6_code 25 = .ok (.aload_n 0, 1) := by decide +kernel
theorem dTo_measurePair_26 : decode prog_5_method_6_code 26 = .ok (.getfield 23, 3) := by decide +kernel
theorem dTo_measurePair_29 : decode prog_5_method_6_code 29 = .ok (.iconst 1, 1) := by decide +kernel
theorem dTo_measurePair_30 : decode prog_5_method_6_code 30 = .ok (.iadd, 1) := by decide +kernel
theorem dTo_measurePair_31 : decode prog_5_method_6_code 31 = .ok (.caload, 1) := by decide +kernel
theorem dTo_measurePair_32 : decode prog_5_method_6_code 32 = .ok (.bipush 97, 2) := by decide +kernel
theorem dTo_measurePair_34 : decode prog_5_method_6_code 34 = .ok (.isub, 1) := by decide +kernel
theorem dTo_measurePair_35 : decode prog_5_method_6_code 35 = .ok (.putfield 15, 3) := by decide +kernel
theorem dTo_measurePair_38 : decode prog_5_method_6_code 38 = .ok (.aload_n 0, 1) := by decide +kernel
theorem dTo_measurePair_39 : decode prog_5_method_6_code 39 = .ok (.getfield 15, 3) := by decide +kernel
theorem dTo_measurePair_42 : decode prog_5_method_6_code 42 = .ok (.ifCond .lt 12, 3) := by decide +kernel
theorem dTo_measurePair_45 : decode prog_5_method_6_code 45 = .ok (.aload_n 0, 1) := by decide +kernel
theorem dTo_measurePair_46 : decode prog_5_method_6_code 46 = .ok (.getfield 15, 3) := by decide +kernel
theorem dTo_measurePair_49 : decode prog_5_method_6_code 49 = .ok (.bipush 26, 2) := by decide +kernel
theorem dTo_measurePair_51 : decode prog_5_method_6_code 51 = .ok (.if_icmp .lt 8, 3) := by decide +kernel
theorem dTo_measurePair_54 : decode prog_5_method_6_code 54 = .ok (.aload_n 0, 1) := by decide +kernel
theorem dTo_measurePair_55 : decode prog_5_method_6_code 55 = .ok (.iconst 0, 1) := by decide +kernel
theorem dTo_measurePair_56 : decode prog_5_method_6_code 56 = .ok (.putfield 11, 3) := by decide +kernel
theorem dTo_measurePair_59 : decode prog_5_method_6_code 59 = .ok (.iconst 0, 1) := by decide +kernel
theorem dTo_measurePair_60 : decode prog_5_method_6_code 60 = .ok (.ireturn, 1) := by decide +kernel
abbrev qTo_measurePair (dC : Nat → ClassId) (dI : Nat → Nat → Nat) (dA : Nat → ClassId) (to : Nat) (cm : Int) (rg : Int) (st0 : Int) (en0 : Int) (lg : Int) (tr : Nat) (nn : Nat) (D : Int → Int) (A : Nat → Prop) : Array Value → State → Outcome → State → Prop := QI (dC, dI) vwCl (tyA dA) (fun (r : Int) (v_ : Int × Int × Int) => (r = 1 ∧ en0 ≤ st0 + 1 ∧ v_.1 = lg ∧ v_.2.1 = rg ∧ v_.2.2 = cm) ∨ (r = 0 ∧ st0 + 1 < en0 ∧ v_.1 = 2 ∧ v_.2.1 = D (st0 + 1) - 97 ∧ ((0 ≤ v_.2.1 ∧ v_.2.1 < 26 ∧ v_.2.2 = cm) ∨ ((v_.2.1 < 0 ∨ 26 ≤ v_.2.1) ∧ v_.2.2 = 0)))) (fun (v_ : Int × Int × Int) => wTo dA to v_.2.2 v_.2.1 ((.ref tr)) st0 en0 v_.1 (wCh dA tr nn D [])) A
abbrev rmTo_measurePair : Room := { frames := 0, cells := 0, slots := 0, locals := 0 }
set_option maxRecDepth 100000 in
set_option maxHeartbeats 1000000 in
theorem cTo_measurePair (l : Launch) (dC : Nat → ClassId) (dI : Nat → Nat → Nat) (dA : Nat → ClassId) (to : Nat) (cm : Int) (rg : Int) (st0 : Int) (en0 : Int) (lg : Int) (tr : Nat) (nn : Nat) (D : Int → Int) (hT : TP nn D st0 en0) (hse : st0 < en0) (sz : Nat) : Met l yTo_measurePair wsTo_measurePair rmTo_measurePair (PC (dC, dI) vwCl (tyA dA) XN [.ref to] (wTo dA to cm rg ((.ref tr)) st0 en0 lg (wCh dA tr nn D [])) sz) (qTo_measurePair dC dI dA to cm rg st0 en0 lg tr nn D (va_A (wTo dA to cm rg ((.ref tr)) st0 en0 lg (wCh dA tr nn D [])) sz)) 0 0 (va_A (wTo dA to cm rg ((.ref tr)) st0 en0 lg (wCh dA tr nn D [])) sz) := by
  refine met_of (cc := prog_5_method_6_code) (maxL := 1) (ret := (some .boolean)) (Qc := qTo_measurePair dC dI dA to cm rg st0 en0 lg tr nn D) XN_ok (by decide) rfl (Nat.le_of_ble_eq_true rfl) ?_
  intro p e s m below meth c ls A hx hb hr hml hown hts hlocks hnm hK hP hD hA hX hS hl
  have hl : lv_has ls 1 [(0, .ref to)] := hl
  have hown : s.vm.findClass "MacroReckoner$Token" = some m.cls := hown
  obtain ⟨H, hH⟩ : ∃ H : Heap, H = s.heap := ⟨_, rfl⟩
  obtain ⟨locs, hlo⟩ : ∃ L : List Loc, L = [] := ⟨_, rfl⟩
  have hP : va_P (dC, dI) vwCl (wTo dA to cm rg ((.ref tr)) st0 en0 lg (wCh dA tr nn D [])) H := hH ▸ hP
  have hS : va_S A s.heap H locs := by rw [hH, hlo]; exact hS
  suffices hgo : W p l e rmTo_measurePair s m [.ref to].toArray below meth c H locs 0 0 (MQ below (qTo_measurePair dC dI dA to cm rg st0 en0 lg tr nn D A) [.ref to].toArray s 0 0 A) (F0 m 0 ls []) by rw [hH, hlo] at hgo; exact hgo
  clear hH hlo
  obtain ⟨ht0, ht1, ht2, ht3, ht4⟩ := hT
  refine lv_aload_n hx hb dTo_measurePair_0 rfl (lv_at hl 0 rfl) ?_
  refine va_get (D := (dC, dI)) (ci := 3) (v := .int (iI st0)) (C := "MacroReckoner$Token") (T := TTo) (N := 6) hx hb hts inTo hown hK hP 0 rfl rfl 3 (by decide) (hts _ wt1_61) (fun _ h9 => h9) rfl dTo_measurePair_1 ?_
  refine lv_iconst (v := iI 1) hx hb dTo_measurePair_4 rfl ?_
  refine iv_iadd hx hb dTo_measurePair_5 ?_
  refine lv_aload_n hx hb dTo_measurePair_6 rfl (lv_at hl 0 rfl) ?_
  refine va_get (D := (dC, dI)) (ci := 3) (v := .int (iI en0)) (C := "MacroReckoner$Token") (T := TTo) (N := 6) hx hb hts inTo hown hK hP 0 rfl rfl 4 (by decide) (hts _ wt1_63) (fun _ h9 => h9) rfl dTo_measurePair_7 ?_
  refine iv_icmp_lt (tgt := 15) hx hb dTo_measurePair_10 (by decide) ⟨by omega, by omega⟩ ⟨by omega, by omega⟩ (fun hc10 => ?_) (fun hc10 => ?_)
  · refine lv_aload_n hx hb dTo_measurePair_15 rfl (lv_at hl 0 rfl) ?_
    refine lv_iconst (v := iI 2) hx hb dTo_measurePair_16 rfl ?_
    refine va_put (D := (dC, dI)) (ci := 3) (v := .int (iI 2)) (ty := .int) (C := "MacroReckoner$Token") (T := TTo) (N := 6) hx hb hts inTo tyTo tyTo_ok nmTo hown hK hP hD hS 0 rfl rfl 5 (by decide) (hts _ wt1_64) (fun _ h9 => h9) rfl (by decide +kernel) rfl rfl (Nat.le_of_ble_eq_true rfl) dTo_measurePair_17 (fun H locs hP hD hS => ?_)
    have hP : va_P (dC, dI) vwCl (wTo dA to cm rg ((.ref tr)) st0 en0 2 (wCh dA tr nn D [])) H := hP
    have hD : va_D A (wTo dA to cm rg ((.ref tr)) st0 en0 2 (wCh dA tr nn D [])) := hD
    refine lv_aload_n hx hb dTo_measurePair_20 rfl (lv_at hl 0 rfl) ?_
    refine lv_aload_n hx hb dTo_measurePair_21 rfl (lv_at hl 0 rfl) ?_
    refine va_get (D := (dC, dI)) (ci := 3) (v := .ref tr) (C := "MacroReckoner$Token") (T := TTo) (N := 6) hx hb hts inTo hown hK hP 0 rfl rfl 2 (by decide) (hts _ wt1_59) (fun _ h9 => h9) rfl dTo_measurePair_22 ?_
    refine lv_aload_n hx hb dTo_measurePair_25 rfl (lv_at hl 0 rfl) ?_
    refine va_get (D := (dC, dI)) (ci := 3) (v := .int (iI st0)) (C := "MacroReckoner$Token") (T := TTo) (N := 6) hx hb hts inTo hown hK hP 0 rfl rfl 3 (by decide) (hts _ wt1_61) (fun _ h9 => h9) rfl dTo_measurePair_26 ?_
    refine lv_iconst (v := iI 1) hx hb dTo_measurePair_29 rfl ?_
    refine iv_iadd hx hb dTo_measurePair_30 ?_
    have hdi := ht4 (st0 + 1) (by omega) hc10
    refine iv_cald hx hb hK hP 1 1 rfl rfl (by omega) dTo_measurePair_31 (by omega) (by omega) ?_
    refine lv_bipush (v := iI 97) hx hb dTo_measurePair_32 (by decide) ?_
    refine iv_isub hx hb dTo_measurePair_34 ?_
    refine va_put (D := (dC, dI)) (ci := 3) (v := .int (iI ((D (st0 + 1)) - 97))) (ty := .int) (C := "MacroReckoner$Token") (T := TTo) (N := 6) hx hb hts inTo tyTo tyTo_ok nmTo hown hK hP hD hS 0 rfl rfl 1 (by decide) (hts _ wt1_57) (fun _ h9 => h9) rfl (by decide +kernel) rfl rfl (Nat.le_of_ble_eq_true rfl) dTo_measurePair_35 (fun H locs hP hD hS => ?_)
    have hP : va_P (dC, dI) vwCl (wTo dA to cm ((D (st0 + 1)) - 97) ((.ref tr)) st0 en0 2 (wCh dA tr nn D [])) H := hP
    have hD : va_D A (wTo dA to cm ((D (st0 + 1)) - 97) ((.ref tr)) st0 en0 2 (wCh dA tr nn D [])) := hD
    refine lv_aload_n hx hb dTo_measurePair_38 rfl (lv_at hl 0 rfl) ?_
    refine va_get (D := (dC, dI)) (ci := 3) (v := .int (iI (((D (st0 + 1)) - 97)))) (C := "MacroReckoner$Token") (T := TTo) (N := 6) hx hb hts inTo hown hK hP 0 rfl rfl 1 (by decide) (hts _ wt1_57) (fun _ h9 => h9) rfl dTo_measurePair_39 ?_
    refine iv_if_lt (tgt := 54) hx hb dTo_measurePair_42 (by decide) ⟨by omega, by omega⟩ (fun hc42 => ?_) (fun hc42 => ?_)
    · refine lv_aload_n hx hb dTo_measurePair_54 rfl (lv_at hl 0 rfl) ?_
      refine lv_iconst (v := iI 0) hx hb dTo_measurePair_55 rfl ?_
      refine va_put (D := (dC, dI)) (ci := 3) (v := .int (iI 0)) (ty := .char) (C := "MacroReckoner$Token") (T := TTo) (N := 6) hx hb hts inTo tyTo tyTo_ok nmTo hown hK hP hD hS 0 rfl rfl 0 (by decide) (hts _ wt1_55) (fun _ h9 => h9) rfl (by decide +kernel) (nrw_char (by omega) (by omega)) (fit_char (by omega) (by omega)) (Nat.le_of_ble_eq_true rfl) dTo_measurePair_56 (fun H locs hP hD hS => ?_)
      have hP : va_P (dC, dI) vwCl (wTo dA to 0 ((D (st0 + 1)) - 97) ((.ref tr)) st0 en0 2 (wCh dA tr nn D [])) H := hP
      have hD : va_D A (wTo dA to 0 ((D (st0 + 1)) - 97) ((.ref tr)) st0 en0 2 (wCh dA tr nn D [])) := hD
      refine lv_iconst (v := iI 0) hx hb dTo_measurePair_59 rfl ?_
      exact rt_z hx hb hr hlocks hK hS dTo_measurePair_60 (nrw_bool (by omega)) (2, (D (st0 + 1)) - 97, 0) hP hD (show (0 = 1 ∧ en0 ≤ st0 + 1 ∧ 2 = lg ∧ ((D (st0 + 1)) - 97) = rg ∧ 0 = cm) ∨ (0 = 0 ∧ st0 + 1 < en0 ∧ 2 = 2 ∧ ((D (st0 + 1)) - 97) = D (st0 + 1) - 97 ∧ ((0 ≤ ((D (st0 + 1)) - 97) ∧ ((D (st0 + 1)) - 97) < 26 ∧ 0 = cm) ∨ ((((D (st0 + 1)) - 97) < 0 ∨ 26 ≤ ((D (st0 + 1)) - 97)) ∧ 0 = 0))) from by omega)
    · refine lv_aload_n hx hb dTo_measurePair_45 rfl (lv_at hl 0 rfl) ?_
      refine va_get (D := (dC, dI)) (ci := 3) (v := .int (iI (((D (st0 + 1)) - 97)))) (C := "MacroReckoner$Token") (T := TTo) (N := 6) hx hb hts inTo hown hK hP 0 rfl rfl 1 (by decide) (hts _ wt1_57) (fun _ h9 => h9) rfl dTo_measurePair_46 ?_
      refine lv_bipush (v := iI 26) hx hb dTo_measurePair_49 (by decide) ?_
      refine iv_icmp_lt (tgt := 59) hx hb dTo_measurePair_51 (by decide) ⟨by omega, by omega⟩ ⟨by decide, by decide⟩ (fun hc51 => ?_) (fun hc51 => ?_)
      · refine lv_iconst (v := iI 0) hx hb dTo_measurePair_59 rfl ?_
        exact rt_z hx hb hr hlocks hK hS dTo_measurePair_60 (nrw_bool (by omega)) (2, (D (st0 + 1)) - 97, cm) hP hD (show (0 = 1 ∧ en0 ≤ st0 + 1 ∧ 2 = lg ∧ ((D (st0 + 1)) - 97) = rg ∧ cm = cm) ∨ (0 = 0 ∧ st0 + 1 < en0 ∧ 2 = 2 ∧ ((D (st0 + 1)) - 97) = D (st0 + 1) - 97 ∧ ((0 ≤ ((D (st0 + 1)) - 97) ∧ ((D (st0 + 1)) - 97) < 26 ∧ cm = cm) ∨ ((((D (st0 + 1)) - 97) < 0 ∨ 26 ≤ ((D (st0 + 1)) - 97)) ∧ cm = 0))) from by omega)
      · refine lv_aload_n hx hb dTo_measurePair_54 rfl (lv_at hl 0 rfl) ?_
        refine lv_iconst (v := iI 0) hx hb dTo_measurePair_55 rfl ?_
        refine va_put (D := (dC, dI)) (ci := 3) (v := .int (iI 0)) (ty := .char) (C := "MacroReckoner$Token") (T := TTo) (N := 6) hx hb hts inTo tyTo tyTo_ok nmTo hown hK hP hD hS 0 rfl rfl 0 (by decide) (hts _ wt1_55) (fun _ h9 => h9) rfl (by decide +kernel) (nrw_char (by omega) (by omega)) (fit_char (by omega) (by omega)) (Nat.le_of_ble_eq_true rfl) dTo_measurePair_56 (fun H locs hP hD hS => ?_)
        have hP : va_P (dC, dI) vwCl (wTo dA to 0 ((D (st0 + 1)) - 97) ((.ref tr)) st0 en0 2 (wCh dA tr nn D [])) H := hP
        have hD : va_D A (wTo dA to 0 ((D (st0 + 1)) - 97) ((.ref tr)) st0 en0 2 (wCh dA tr nn D [])) := hD
        refine lv_iconst (v := iI 0) hx hb dTo_measurePair_59 rfl ?_
        exact rt_z hx hb hr hlocks hK hS dTo_measurePair_60 (nrw_bool (by omega)) (2, (D (st0 + 1)) - 97, 0) hP hD (show (0 = 1 ∧ en0 ≤ st0 + 1 ∧ 2 = lg ∧ ((D (st0 + 1)) - 97) = rg ∧ 0 = cm) ∨ (0 = 0 ∧ st0 + 1 < en0 ∧ 2 = 2 ∧ ((D (st0 + 1)) - 97) = D (st0 + 1) - 97 ∧ ((0 ≤ ((D (st0 + 1)) - 97) ∧ ((D (st0 + 1)) - 97) < 26 ∧ 0 = cm) ∨ ((((D (st0 + 1)) - 97) < 0 ∨ 26 ≤ ((D (st0 + 1)) - 97)) ∧ 0 = 0))) from by omega)
  · refine lv_iconst (v := iI 1) hx hb dTo_measurePair_13 rfl ?_
    exact rt_z hx hb hr hlocks hK hS dTo_measurePair_14 (nrw_bool (by omega)) (lg, rg, cm) hP hD (show (1 = 1 ∧ en0 ≤ st0 + 1 ∧ lg = lg ∧ rg = rg ∧ cm = cm) ∨ (1 = 0 ∧ st0 + 1 < en0 ∧ lg = 2 ∧ rg = D (st0 + 1) - 97 ∧ ((0 ≤ rg ∧ rg < 26 ∧ cm = cm) ∨ ((rg < 0 ∨ 26 ≤ rg) ∧ cm = 0))) from by omega)

theorem dTo_measureNumeral_0 : decode prog_5_method_4_code 0 = .ok (.aload_n 0, 1) := by decide +kernel
theorem dTo_measureNumeral_1 : decode prog_5_method_4_code 1 = .ok (.getfield 19, 3) := by decide +kernel
theorem dTo_measureNumeral_4 : decode prog_5_method_4_code 4 = .ok (.aload_n 0, 1) := by decide +kernel
theorem dTo_measureNumeral_5 : decode prog_5_method_4_code 5 = .ok (.getfield 23, 3) := by decide +kernel
theorem dTo_measureNumeral_8 : decode prog_5_method_4_code 8 = .ok (.caload, 1) := by decide +kernel
theorem dTo_measureNumeral_9 : decode prog_5_method_4_code 9 = .ok (.bipush 95, 2) := by decide +kernel
theorem dTo_measureNumeral_11 : decode prog_5_method_4_code 11 = .ok (.if_icmp .ne 12, 3) := by decide +kernel
theorem dTo_measureNumeral_14 : decode prog_5_method_4_code 14 = .ok (.aload_n 0, 1) := by decide +kernel
theorem dTo_measureNumeral_15 : decode prog_5_method_4_code 15 = .ok (.getfield 23, 3) := by decide +kernel
theorem dTo_measureNumeral_18 : decode prog_5_method_4_code 18 = .ok (.iconst 1, 1) := by decide +kernel
theorem dTo_measureNumeral_19 : decode prog_5_method_4_code 19 = .ok (.iadd, 1) := by decide +kernel
theorem dTo_measureNumeral_20 : decode prog_5_method_4_code 20 = .ok (.goto 7, 3) := by decide +kernel
theorem dTo_measureNumeral_23 : decode prog_5_method_4_code 23 = .ok (.aload_n 0, 1) := by decide +kernel
theorem dTo_measureNumeral_24 : decode prog_5_method_4_code 24 = .ok (.getfield 23, 3) := by decide +kernel
theorem dTo_measureNumeral_27 : decode prog_5_method_4_code 27 = .ok (.istore_n 1, 1) := by decide +kernel
theorem dTo_measureNumeral_28 : decode prog_5_method_4_code 28 = .ok (.iconst 0, 1) := by decide +kernel
theorem dTo_measureNumeral_29 : decode prog_5_method_4_code 29 = .ok (.istore_n 2, 1) := by decide +kernel
theorem dTo_measureNumeral_30 : decode prog_5_method_4_code 30 = .ok (.iconst 0, 1) := by decide +kernel
theorem dTo_measureNumeral_31 : decode prog_5_method_4_code 31 = .ok (.istore_n 3, 1) := by decide +kernel
theorem dTo_measureNumeral_32 : decode prog_5_method_4_code 32 = .ok (.iload_n 1, 1) := by decide +kernel
theorem dTo_measureNumeral_33 : decode prog_5_method_4_code 33 = .ok (.aload_n 0, 1) := by decide +kernel
theorem dTo_measureNumeral_34 : decode prog_5_method_4_code 34 = .ok (.getfield 26, 3) := by decide +kernel
theorem dTo_measureNumeral_37 : decode prog_5_method_4_code 37 = .ok (.if_icmp .ge 56, 3) := by decide +kernel
theorem dTo_measureNumeral_40 : decode prog_5_method_4_code 40 = .ok (.aload_n 0, 1) := by decide +kernel
theorem dTo_measureNumeral_41 : decode prog_5_method_4_code 41 = .ok (.getfield 19, 3) := by decide +kernel
theorem dTo_measureNumeral_44 : decode prog_5_method_4_code 44 = .ok (.iload_n 1, 1) := by decide +kernel
theorem dTo_measureNumeral_45 : decode prog_5_method_4_code 45 = .ok (.caload, 1) := by decide +kernel
theorem dTo_measureNumeral_46 : decode prog_5_method_4_code 46 = .ok (.invokestatic 59, 3) := by decide +kernel
theorem dTo_measureNumeral_49 : decode prog_5_method_4_code 49 = .ok (.ifCond .ne 18, 3) := by decide +kernel
theorem dTo_measureNumeral_52 : decode prog_5_method_4_code 52 = .ok (.aload_n 0, 1) := by decide +kernel
theorem dTo_measureNumeral_53 : decode prog_5_method_4_code 53 = .ok (.getfield 19, 3) := by decide +kernel
theorem dTo_measureNumeral_56 : decode prog_5_method_4_code 56 = .ok (.iload_n 1, 1) := by decide +kernel
theorem dTo_measureNumeral_57 : decode prog_5_method_4_code 57 = .ok (.caload, 1) := by decide +kernel
theorem dTo_measureNumeral_58 : decode prog_5_method_4_code 58 = .ok (.bipush 46, 2) := by decide +kernel
theorem dTo_measureNumeral_60 : decode prog_5_method_4_code 60 = .ok (.if_icmp .ne 33, 3) := by decide +kernel
theorem dTo_measureNumeral_63 : decode prog_5_method_4_code 63 = .ok (.iload_n 3, 1) := by decide +kernel
theorem dTo_measureNumeral_64 : decode prog_5_method_4_code 64 = .ok (.ifCond .ne 29, 3) := by decide +kernel
theorem dTo_measureNumeral_67 : decode prog_5_method_4_code 67 = .ok (.aload_n 0, 1) := by decide +kernel
theorem dTo_measureNumeral_68 : decode prog_5_method_4_code 68 = .ok (.getfield 19, 3) := by decide +kernel
theorem dTo_measureNumeral_71 : decode prog_5_method_4_code 71 = .ok (.iload_n 1, 1) := by decide +kernel
theorem dTo_measureNumeral_72 : decode prog_5_method_4_code 72 = .ok (.caload, 1) := by decide +kernel
theorem dTo_measureNumeral_73 : decode prog_5_method_4_code 73 = .ok (.bipush 46, 2) := by decide +kernel
theorem dTo_measureNumeral_75 : decode prog_5_method_4_code 75 = .ok (.if_icmp .ne 9, 3) := by decide +kernel
theorem dTo_measureNumeral_78 : decode prog_5_method_4_code 78 = .ok (.iinc 3 1, 3) := by decide +kernel
theorem dTo_measureNumeral_81 : decode prog_5_method_4_code 81 = .ok (.goto 6, 3) := by decide +kernel
theorem dTo_measureNumeral_84 : decode prog_5_method_4_code 84 = .ok (.iinc 2 1, 3) := by decide +kernel
theorem dTo_measureNumeral_87 : decode prog_5_method_4_code 87 = .ok (.iinc 1 1, 3) := by decide +kernel
theorem dTo_measureNumeral_90 : decode prog_5_method_4_code 90 = .ok (.goto (-58), 3) := by decide +kernel
theorem dTo_measureNumeral_93 : decode prog_5_method_4_code 93 = .ok (.iload_n 2, 1) := by decide +kernel
theorem dTo_measureNumeral_94 : decode prog_5_method_4_code 94 = .ok (.ifCond .le 19, 3) := by decide +kernel
theorem dTo_measureNumeral_97 : decode prog_5_method_4_code 97 = .ok (.aload_n 0, 1) := by decide +kernel
theorem dTo_measureNumeral_98 : decode prog_5_method_4_code 98 = .ok (.bipush 48, 2) := by decide +kernel
theorem dTo_measureNumeral_100 : decode prog_5_method_4_code 100 = .ok (.putfield 11, 3) := by decide +kernel
theorem dTo_measureNumeral_103 : decode prog_5_method_4_code 103 = .ok (.aload_n 0, 1) := by decide +kernel
theorem dTo_measureNumeral_104 : decode prog_5_method_4_code 104 = .ok (.iload_n 1, 1) := by decide +kernel
theorem dTo_measureNumeral_105 : decode prog_5_method_4_code 105 = .ok (.aload_n 0, 1) := by decide +kernel
theorem dTo_measureNumeral_106 : decode prog_5_method_4_code 106 = .ok (.getfield 23, 3) := by decide +kernel
theorem dTo_measureNumeral_109 : decode prog_5_method_4_code 109 = .ok (.isub, 1) := by decide +kernel
theorem dTo_measureNumeral_110 : decode prog_5_method_4_code 110 = .ok (.putfield 29, 3) := by decide +kernel
theorem dTo_measureNumeral_113 : decode prog_5_method_4_code 113 = .ok (.iload_n 1, 1) := by decide +kernel
theorem dTo_measureNumeral_114 : decode prog_5_method_4_code 114 = .ok (.aload_n 0, 1) := by decide +kernel
theorem dTo_measureNumeral_115 : decode prog_5_method_4_code 115 = .ok (.getfield 26, 3) := by decide +kernel
theorem dTo_measureNumeral_118 : decode prog_5_method_4_code 118 = .ok (.if_icmp .ne 7, 3) := by decide +kernel
theorem dTo_measureNumeral_121 : decode prog_5_method_4_code 121 = .ok (.iconst 1, 1) := by decide +kernel
theorem dTo_measureNumeral_122 : decode prog_5_method_4_code 122 = .ok (.goto 4, 3) := by decide +kernel
theorem dTo_measureNumeral_125 : decode prog_5_method_4_code 125 = .ok (.iconst 0, 1) := by decide +kernel
theorem dTo_measureNumeral_126 : decode prog_5_method_4_code 126 = .ok (.ireturn, 1) := by decide +kernel
abbrev qTo_measureNumeral (dC : Nat → ClassId) (dI : Nat → Nat → Nat) (dA : Nat → ClassId) (to : Nat) (cm : Int) (rg : Int) (st0 : Int) (en0 : Int) (lg : Int) (tr : Nat) (nn : Nat) (D : Int → Int) (A : Nat → Prop) : Array Value → State → Outcome → State → Prop := QI (dC, dI) vwCl (tyA dA) (fun (r : Int) (v_ : Int × Int × Int) => nmR D (np D st0) en0 v_.2.2 ∧ ((hasD D (np D st0) v_.2.2 ∧ v_.2.1 = 48 ∧ v_.1 = v_.2.2 - st0) ∨ (¬ hasD D (np D st0) v_.2.2 ∧ v_.2.1 = cm ∧ v_.1 = lg)) ∧ ((r = 1 ∧ v_.2.2 = en0) ∨ (r = 0 ∧ v_.2.2 < en0))) (fun (v_ : Int × Int × Int) => wTo dA to v_.2.1 rg ((.ref tr)) st0 en0 v_.1 (wCh dA tr nn D [])) A
abbrev rmTo_measureNumeral : Room := { frames := 1, cells := 0, slots := 0, locals := 20 }
set_option maxRecDepth 100000 in
set_option maxHeartbeats 1000000 in
theorem cTo_measureNumeral (l : Launch) (dC : Nat → ClassId) (dI : Nat → Nat → Nat) (dA : Nat → ClassId) (to : Nat) (cm : Int) (rg : Int) (st0 : Int) (en0 : Int) (lg : Int) (tr : Nat) (nn : Nat) (D : Int → Int) (hT : TP nn D st0 en0) (hse : st0 < en0) (sz : Nat) : Met l yTo_measureNumeral wsTo_measureNumeral rmTo_measureNumeral (PC (dC, dI) vwCl (tyA dA) XN [.ref to] (wTo dA to cm rg ((.ref tr)) st0 en0 lg (wCh dA tr nn D [])) sz) (qTo_measureNumeral dC dI dA to cm rg st0 en0 lg tr nn D (va_A (wTo dA to cm rg ((.ref tr)) st0 en0 lg (wCh dA tr nn D [])) sz)) 0 0 (va_A (wTo dA to cm rg ((.ref tr)) st0 en0 lg (wCh dA tr nn D [])) sz) := by
  refine met_of (cc := prog_5_method_4_code) (maxL := 4) (ret := (some .boolean)) (Qc := qTo_measureNumeral dC dI dA to cm rg st0 en0 lg tr nn D) XN_ok (by decide) rfl (Nat.le_of_ble_eq_true rfl) ?_
  intro p e s m below meth c ls A hx hb hr hml hown hts hlocks hnm hK hP hD hA hX hS hl
  have hl : lv_has ls 4 [(0, .ref to)] := hl
  have hown : s.vm.findClass "MacroReckoner$Token" = some m.cls := hown
  obtain ⟨H, hH⟩ : ∃ H : Heap, H = s.heap := ⟨_, rfl⟩
  obtain ⟨locs, hlo⟩ : ∃ L : List Loc, L = [] := ⟨_, rfl⟩
  have hP : va_P (dC, dI) vwCl (wTo dA to cm rg ((.ref tr)) st0 en0 lg (wCh dA tr nn D [])) H := hH ▸ hP
  have hS : va_S A s.heap H locs := by rw [hH, hlo]; exact hS
  suffices hgo : W p l e rmTo_measureNumeral s m [.ref to].toArray below meth c H locs 0 0 (MQ below (qTo_measureNumeral dC dI dA to cm rg st0 en0 lg tr nn D A) [.ref to].toArray s 0 0 A) (F0 m 0 ls []) by rw [hH, hlo] at hgo; exact hgo
  clear hH hlo
  obtain ⟨ht0, ht1, ht2, ht3, ht4⟩ := hT
  refine lv_aload_n hx hb dTo_measureNumeral_0 rfl (lv_at hl 0 rfl) ?_
  refine va_get (D := (dC, dI)) (ci := 3) (v := .ref tr) (C := "MacroReckoner$Token") (T := TTo) (N := 6) hx hb hts inTo hown hK hP 0 rfl rfl 2 (by decide) (hts _ wt1_59) (fun _ h9 => h9) rfl dTo_measureNumeral_1 ?_
  refine lv_aload_n hx hb dTo_measureNumeral_4 rfl (lv_at hl 0 rfl) ?_
  refine va_get (D := (dC, dI)) (ci := 3) (v := .int (iI st0)) (C := "MacroReckoner$Token") (T := TTo) (N := 6) hx hb hts inTo hown hK hP 0 rfl rfl 3 (by decide) (hts _ wt1_61) (fun _ h9 => h9) rfl dTo_measureNumeral_5 ?_
  have hd0 := ht4 st0 (Int.le_refl _) hse
  refine iv_cald hx hb hK hP 1 1 rfl rfl (by omega) dTo_measureNumeral_8 (by omega) (by omega) ?_
  refine lv_bipush (v := iI 95) hx hb dTo_measureNumeral_9 (by decide) ?_
  refine iv_icmp_ne (tgt := 23) hx hb dTo_measureNumeral_11 (by decide) ⟨by omega, by omega⟩ ⟨by decide, by decide⟩ (fun hc11 => ?_) (fun hc11 => ?_)
  · refine lv_aload_n hx hb dTo_measureNumeral_23 rfl (lv_at hl 0 rfl) ?_
    refine va_get (D := (dC, dI)) (ci := 3) (v := .int (iI st0)) (C := "MacroReckoner$Token") (T := TTo) (N := 6) hx hb hts inTo hown hK hP 0 rfl rfl 3 (by decide) (hts _ wt1_61) (fun _ h9 => h9) rfl dTo_measureNumeral_24 ?_
    refine lv_istore_n (lv' := [(1, .int (iI st0)), (0, .ref to)]) hx hb dTo_measureNumeral_27 rfl hl (by decide) rfl (fun ls hl => ?_)
    obtain ⟨p0, e_p0⟩ : ∃ z : Int, z = st0 := ⟨_, rfl⟩
    rw [← e_p0] at hl
    have hpn : p0 = np D st0 := by rw [e_p0]; unfold np; first | rw [if_pos hc11] | rw [if_neg hc11]
    have hpb : st0 ≤ p0 ∧ p0 ≤ st0 + 1 := by omega
    refine lv_iconst (v := iI 0) hx hb dTo_measureNumeral_28 rfl ?_
    refine lv_istore_n (lv' := [(2, .int (iI 0)), (1, .int (iI p0)), (0, .ref to)]) hx hb dTo_measureNumeral_29 rfl hl (by decide) rfl (fun ls hl => ?_)
    refine lv_iconst (v := iI 0) hx hb dTo_measureNumeral_30 rfl ?_
    refine lv_istore_n (lv' := [(3, .int (iI 0)), (2, .int (iI 0)), (1, .int (iI p0)), (0, .ref to)]) hx hb dTo_measureNumeral_31 rfl hl (by decide) rfl (fun ls hl => ?_)
    have L32 : ∀ (n : Nat) (i : Int) (dgs : Int) (pts : Int) (H : Heap) (locs : List Loc) (ls : Array Slot), (i ≤ en0) → (nmJ D p0 i dgs pts) → (en0 - i).toNat < n → va_P (dC, dI) vwCl (wTo dA to cm rg ((.ref tr)) st0 en0 lg (wCh dA tr nn D [])) H → va_D A (wTo dA to cm rg ((.ref tr)) st0 en0 lg (wCh dA tr nn D [])) → va_S A s.heap H locs → lv_has ls 4 [(3, .int (iI pts)), (2, .int (iI dgs)), (1, .int (iI i)), (0, .ref to)] → W p l e rmTo_measureNumeral s m [.ref to].toArray below meth c H locs 0 0 (MQ below (qTo_measureNumeral dC dI dA to cm rg st0 en0 lg tr nn D A) [.ref to].toArray s 0 0 A) (F0 m 32 ls []) := by
      intro n
      induction n with
      | zero => intro i dgs pts H locs ls hi hJ hn; omega
      | succ n ih =>
        intro i dgs pts H locs ls hi hJ hn hP hD hS hl
        have hj1 := hJ.1
        have hj2 := hJ.2.1
        have hj3 := hJ.2.2.1
        have ih32 := ih
        refine lv_iload_n hx hb dTo_measureNumeral_32 rfl (lv_at hl 2 rfl) ?_
        refine lv_aload_n hx hb dTo_measureNumeral_33 rfl (lv_at hl 3 rfl) ?_
        refine va_get (D := (dC, dI)) (ci := 3) (v := .int (iI en0)) (C := "MacroReckoner$Token") (T := TTo) (N := 6) hx hb hts inTo hown hK hP 0 rfl rfl 4 (by decide) (hts _ wt1_63) (fun _ h9 => h9) rfl dTo_measureNumeral_34 ?_
        refine iv_icmp_ge (tgt := 93) hx hb dTo_measureNumeral_37 (by decide) ⟨by omega, by omega⟩ ⟨by omega, by omega⟩ (fun hc37 => ?_) (fun hc37 => ?_)
        · have hRR : nmR D p0 en0 i := nmz_e hJ hi (by omega)
          refine lv_iload_n hx hb dTo_measureNumeral_93 rfl (lv_at hl 1 rfl) ?_
          refine iv_if_le (tgt := 113) hx hb dTo_measureNumeral_94 (by decide) ⟨by omega, by omega⟩ (fun hc94 => ?_) (fun hc94 => ?_)
          · refine lv_iload_n hx hb dTo_measureNumeral_113 rfl (lv_at hl 2 rfl) ?_
            refine lv_aload_n hx hb dTo_measureNumeral_114 rfl (lv_at hl 3 rfl) ?_
            refine va_get (D := (dC, dI)) (ci := 3) (v := .int (iI en0)) (C := "MacroReckoner$Token") (T := TTo) (N := 6) hx hb hts inTo hown hK hP 0 rfl rfl 4 (by decide) (hts _ wt1_63) (fun _ h9 => h9) rfl dTo_measureNumeral_115 ?_
            refine iv_icmp_ne (tgt := 125) hx hb dTo_measureNumeral_118 (by decide) ⟨by omega, by omega⟩ ⟨by omega, by omega⟩ (fun hc118 => ?_) (fun hc118 => ?_)
            · refine lv_iconst (v := iI 0) hx hb dTo_measureNumeral_125 rfl ?_
              exact rt_z hx hb hr hlocks hK hS dTo_measureNumeral_126 (nrw_bool (by omega)) (lg, cm, i) hP hD (show nmR D (np D st0) en0 i ∧ ((hasD D (np D st0) i ∧ cm = 48 ∧ lg = i - st0) ∨ (¬ hasD D (np D st0) i ∧ cm = cm ∧ lg = lg)) ∧ ((0 = 1 ∧ i = en0) ∨ (0 = 0 ∧ i < en0)) from by rw [← hpn]; refine ⟨hRR, ?_, by omega⟩; first | exact Or.inl ⟨hJ.2.2.2.2.2.2.1 (by omega), rfl, rfl⟩ | exact Or.inr ⟨hJ.2.2.2.2.2.2.2 (by omega), rfl, rfl⟩)
            · refine lv_iconst (v := iI 1) hx hb dTo_measureNumeral_121 rfl ?_
              refine lv_goto (tgt := 126) hx hb dTo_measureNumeral_122 (by decide) ?_
              exact rt_z hx hb hr hlocks hK hS dTo_measureNumeral_126 (nrw_bool (by omega)) (lg, cm, i) hP hD (show nmR D (np D st0) en0 i ∧ ((hasD D (np D st0) i ∧ cm = 48 ∧ lg = i - st0) ∨ (¬ hasD D (np D st0) i ∧ cm = cm ∧ lg = lg)) ∧ ((1 = 1 ∧ i = en0) ∨ (1 = 0 ∧ i < en0)) from by rw [← hpn]; refine ⟨hRR, ?_, by omega⟩; first | exact Or.inl ⟨hJ.2.2.2.2.2.2.1 (by omega), rfl, rfl⟩ | exact Or.inr ⟨hJ.2.2.2.2.2.2.2 (by omega), rfl, rfl⟩)
          · refine lv_aload_n hx hb dTo_measureNumeral_97 rfl (lv_at hl 3 rfl) ?_
            refine lv_bipush (v := iI 48) hx hb dTo_measureNumeral_98 (by decide) ?_
            refine va_put (D := (dC, dI)) (ci := 3) (v := .int (iI 48)) (ty := .char) (C := "MacroReckoner$Token") (T := TTo) (N := 6) hx hb hts inTo tyTo tyTo_ok nmTo hown hK hP hD hS 0 rfl rfl 0 (by decide) (hts _ wt1_55) (fun _ h9 => h9) rfl (by decide +kernel) (nrw_char (by omega) (by omega)) (fit_char (by omega) (by omega)) (Nat.le_of_ble_eq_true rfl) dTo_measureNumeral_100 (fun H locs hP hD hS => ?_)
            have hP : va_P (dC, dI) vwCl (wTo dA to 48 rg ((.ref tr)) st0 en0 lg (wCh dA tr nn D [])) H := hP
            have hD : va_D A (wTo dA to 48 rg ((.ref tr)) st0 en0 lg (wCh dA tr nn D [])) := hD
            refine lv_aload_n hx hb dTo_measureNumeral_103 rfl (lv_at hl 3 rfl) ?_
            refine lv_iload_n hx hb dTo_measureNumeral_104 rfl (lv_at hl 2 rfl) ?_
            refine lv_aload_n hx hb dTo_measureNumeral_105 rfl (lv_at hl 3 rfl) ?_
            refine va_get (D := (dC, dI)) (ci := 3) (v := .int (iI st0)) (C := "MacroReckoner$Token") (T := TTo) (N := 6) hx hb hts inTo hown hK hP 0 rfl rfl 3 (by decide) (hts _ wt1_61) (fun _ h9 => h9) rfl dTo_measureNumeral_106 ?_
            refine iv_isub hx hb dTo_measureNumeral_109 ?_
            refine va_put (D := (dC, dI)) (ci := 3) (v := .int (iI (i - st0))) (ty := .int) (C := "MacroReckoner$Token") (T := TTo) (N := 6) hx hb hts inTo tyTo tyTo_ok nmTo hown hK hP hD hS 0 rfl rfl 5 (by decide) (hts _ wt1_64) (fun _ h9 => h9) rfl (by decide +kernel) rfl rfl (Nat.le_of_ble_eq_true rfl) dTo_measureNumeral_110 (fun H locs hP hD hS => ?_)
            have hP : va_P (dC, dI) vwCl (wTo dA to 48 rg ((.ref tr)) st0 en0 (i - st0) (wCh dA tr nn D [])) H := hP
            have hD : va_D A (wTo dA to 48 rg ((.ref tr)) st0 en0 (i - st0) (wCh dA tr nn D [])) := hD
            refine lv_iload_n hx hb dTo_measureNumeral_113 rfl (lv_at hl 2 rfl) ?_
            refine lv_aload_n hx hb dTo_measureNumeral_114 rfl (lv_at hl 3 rfl) ?_
            refine va_get (D := (dC, dI)) (ci := 3) (v := .int (iI en0)) (C := "MacroReckoner$Token") (T := TTo) (N := 6) hx hb hts inTo hown hK hP 0 rfl rfl 4 (by decide) (hts _ wt1_63) (fun _ h9 => h9) rfl dTo_measureNumeral_115 ?_
            refine iv_icmp_ne (tgt := 125) hx hb dTo_measureNumeral_118 (by decide) ⟨by omega, by omega⟩ ⟨by omega, by omega⟩ (fun hc118 => ?_) (fun hc118 => ?_)
            · refine lv_iconst (v := iI 0) hx hb dTo_measureNumeral_125 rfl ?_
              exact rt_z hx hb hr hlocks hK hS dTo_measureNumeral_126 (nrw_bool (by omega)) (i - st0, 48, i) hP hD (show nmR D (np D st0) en0 i ∧ ((hasD D (np D st0) i ∧ 48 = 48 ∧ (i - st0) = i - st0) ∨ (¬ hasD D (np D st0) i ∧ 48 = cm ∧ (i - st0) = lg)) ∧ ((0 = 1 ∧ i = en0) ∨ (0 = 0 ∧ i < en0)) from by rw [← hpn]; refine ⟨hRR, ?_, by omega⟩; first | exact Or.inl ⟨hJ.2.2.2.2.2.2.1 (by omega), rfl, rfl⟩ | exact Or.inr ⟨hJ.2.2.2.2.2.2.2 (by omega), rfl, rfl⟩)
            · refine lv_iconst (v := iI 1) hx hb dTo_measureNumeral_121 rfl ?_
              refine lv_goto (tgt := 126) hx hb dTo_measureNumeral_122 (by decide) ?_
              exact rt_z hx hb hr hlocks hK hS dTo_measureNumeral_126 (nrw_bool (by omega)) (i - st0, 48, i) hP hD (show nmR D (np D st0) en0 i ∧ ((hasD D (np D st0) i ∧ 48 = 48 ∧ (i - st0) = i - st0) ∨ (¬ hasD D (np D st0) i ∧ 48 = cm ∧ (i - st0) = lg)) ∧ ((1 = 1 ∧ i = en0) ∨ (1 = 0 ∧ i < en0)) from by rw [← hpn]; refine ⟨hRR, ?_, by omega⟩; first | exact Or.inl ⟨hJ.2.2.2.2.2.2.1 (by omega), rfl, rfl⟩ | exact Or.inr ⟨hJ.2.2.2.2.2.2.2 (by omega), rfl, rfl⟩)
        · have hdi := ht4 i (by have := hJ.1; omega) hc37
          refine lv_aload_n hx hb dTo_measureNumeral_40 rfl (lv_at hl 3 rfl) ?_
          refine va_get (D := (dC, dI)) (ci := 3) (v := .ref tr) (C := "MacroReckoner$Token") (T := TTo) (N := 6) hx hb hts inTo hown hK hP 0 rfl rfl 2 (by decide) (hts _ wt1_59) (fun _ h9 => h9) rfl dTo_measureNumeral_41 ?_
          refine lv_iload_n hx hb dTo_measureNumeral_44 rfl (lv_at hl 2 rfl) ?_
          refine iv_cald hx hb hK hP 1 1 rfl rfl (by omega) dTo_measureNumeral_45 (by omega) (by omega) ?_
          refine cv_i (va_runS (As := [.int (iI (D i))]) (rest := []) ⟨hx, hb, hml, hown, hts⟩ (cTo_isDigit l dC dI dA (D i) (by omega) H.size) (cwS 1 hts (gdS wt2_133 wt2_134 wt1_3 wt2_135) rfl rfl rfl ⟨rfl, by decide, by decide, by decide +kernel⟩ ⟨by decide, by decide⟩) (preS hK hP hD hS hA XN_ok trivial [] rfl rfl) rfl rfl hl.1 rfl (lv_room (Nat.le_of_ble_eq_true rfl)) dTo_measureNumeral_46 ⟨Nat.zero_le _, Nat.zero_le _⟩) hP hD hS hA [] [0, 1] rfl (fun v_ => wTo dA to cm rg ((.ref tr)) st0 en0 lg (wCh dA tr nn D [])) (fun _ => rfl) (wTo dA to cm rg ((.ref tr)) st0 en0 lg (wCh dA tr nn D [])) rfl (fun _ => rfl) [to, tr] rfl (fun _ => rfl) (fun _ => rfl) (fun r46 u_ H locs hq46 hP hD hS => ?_)
          have hP : va_P (dC, dI) vwCl (wTo dA to cm rg ((.ref tr)) st0 en0 lg (wCh dA tr nn D [])) H := hP
          have hD : va_D A (wTo dA to cm rg ((.ref tr)) st0 en0 lg (wCh dA tr nn D [])) := hD
          have hq46 : (r46 = 1 ∧ 48 ≤ (D i) ∧ (D i) ≤ 57) ∨ (r46 = 0 ∧ ((D i) < 48 ∨ 57 < (D i))) := hq46
          refine iv_if_ne (tgt := 67) hx hb dTo_measureNumeral_49 (by decide) ⟨by omega, by omega⟩ (fun hc49 => ?_) (fun hc49 => ?_)
          · refine lv_aload_n hx hb dTo_measureNumeral_67 rfl (lv_at hl 3 rfl) ?_
            refine va_get (D := (dC, dI)) (ci := 3) (v := .ref tr) (C := "MacroReckoner$Token") (T := TTo) (N := 6) hx hb hts inTo hown hK hP 0 rfl rfl 2 (by decide) (hts _ wt1_59) (fun _ h9 => h9) rfl dTo_measureNumeral_68 ?_
            refine lv_iload_n hx hb dTo_measureNumeral_71 rfl (lv_at hl 2 rfl) ?_
            refine iv_cald hx hb hK hP 1 1 rfl rfl (by omega) dTo_measureNumeral_72 (by omega) (by omega) ?_
            refine lv_bipush (v := iI 46) hx hb dTo_measureNumeral_73 (by decide) ?_
            refine iv_icmp_ne (tgt := 84) hx hb dTo_measureNumeral_75 (by decide) ⟨by omega, by omega⟩ ⟨by decide, by decide⟩ (fun hc75 => ?_) (fun hc75 => ?_)
            · refine lv_iinc (k := 1) (lv' := [(2, .int (iI (dgs + 1))), (3, .int (iI pts)), (1, .int (iI i)), (0, .ref to)]) (v := iI (dgs + 1)) hx hb dTo_measureNumeral_84 hl rfl (iI_add _ _).symm (by decide) rfl (fun ls hl => ?_)
              refine lv_iinc (k := 2) (lv' := [(1, .int (iI (i + 1))), (2, .int (iI (dgs + 1))), (3, .int (iI pts)), (0, .ref to)]) (v := iI (i + 1)) hx hb dTo_measureNumeral_87 hl rfl (iI_add _ _).symm (by decide) rfl (fun ls hl => ?_)
              refine lv_goto (tgt := 32) hx hb dTo_measureNumeral_90 (by decide) ?_
              exact ih32 (i + 1) (dgs + 1) pts H locs ls (by omega) (by first | exact nmz_p hJ hc75 (by omega) | exact nmz_d hJ (by omega)) (by omega) hP hD hS (lv_sub hl [2, 1, 0, 3] rfl)
            · refine lv_iinc (k := 0) (lv' := [(3, .int (iI (pts + 1))), (2, .int (iI dgs)), (1, .int (iI i)), (0, .ref to)]) (v := iI (pts + 1)) hx hb dTo_measureNumeral_78 hl rfl (iI_add _ _).symm (by decide) rfl (fun ls hl => ?_)
              refine lv_goto (tgt := 87) hx hb dTo_measureNumeral_81 (by decide) ?_
              refine lv_iinc (k := 2) (lv' := [(1, .int (iI (i + 1))), (3, .int (iI (pts + 1))), (2, .int (iI dgs)), (0, .ref to)]) (v := iI (i + 1)) hx hb dTo_measureNumeral_87 hl rfl (iI_add _ _).symm (by decide) rfl (fun ls hl => ?_)
              refine lv_goto (tgt := 32) hx hb dTo_measureNumeral_90 (by decide) ?_
              exact ih32 (i + 1) dgs (pts + 1) H locs ls (by omega) (by first | exact nmz_p hJ hc75 (by omega) | exact nmz_d hJ (by omega)) (by omega) hP hD hS (lv_sub hl [1, 2, 0, 3] rfl)
          · refine lv_aload_n hx hb dTo_measureNumeral_52 rfl (lv_at hl 3 rfl) ?_
            refine va_get (D := (dC, dI)) (ci := 3) (v := .ref tr) (C := "MacroReckoner$Token") (T := TTo) (N := 6) hx hb hts inTo hown hK hP 0 rfl rfl 2 (by decide) (hts _ wt1_59) (fun _ h9 => h9) rfl dTo_measureNumeral_53 ?_
            refine lv_iload_n hx hb dTo_measureNumeral_56 rfl (lv_at hl 2 rfl) ?_
            refine iv_cald hx hb hK hP 1 1 rfl rfl (by omega) dTo_measureNumeral_57 (by omega) (by omega) ?_
            refine lv_bipush (v := iI 46) hx hb dTo_measureNumeral_58 (by decide) ?_
            refine iv_icmp_ne (tgt := 93) hx hb dTo_measureNumeral_60 (by decide) ⟨by omega, by omega⟩ ⟨by decide, by decide⟩ (fun hc60 => ?_) (fun hc60 => ?_)
            · have hRR : nmR D p0 en0 i := nmz_e hJ hi (by omega)
              refine lv_iload_n hx hb dTo_measureNumeral_93 rfl (lv_at hl 1 rfl) ?_
              refine iv_if_le (tgt := 113) hx hb dTo_measureNumeral_94 (by decide) ⟨by omega, by omega⟩ (fun hc94 => ?_) (fun hc94 => ?_)
              · refine lv_iload_n hx hb dTo_measureNumeral_113 rfl (lv_at hl 2 rfl) ?_
                refine lv_aload_n hx hb dTo_measureNumeral_114 rfl (lv_at hl 3 rfl) ?_
                refine va_get (D := (dC, dI)) (ci := 3) (v := .int (iI en0)) (C := "MacroReckoner$Token") (T := TTo) (N := 6) hx hb hts inTo hown hK hP 0 rfl rfl 4 (by decide) (hts _ wt1_63) (fun _ h9 => h9) rfl dTo_measureNumeral_115 ?_
                refine iv_icmp_ne (tgt := 125) hx hb dTo_measureNumeral_118 (by decide) ⟨by omega, by omega⟩ ⟨by omega, by omega⟩ (fun hc118 => ?_) (fun hc118 => ?_)
                · refine lv_iconst (v := iI 0) hx hb dTo_measureNumeral_125 rfl ?_
                  exact rt_z hx hb hr hlocks hK hS dTo_measureNumeral_126 (nrw_bool (by omega)) (lg, cm, i) hP hD (show nmR D (np D st0) en0 i ∧ ((hasD D (np D st0) i ∧ cm = 48 ∧ lg = i - st0) ∨ (¬ hasD D (np D st0) i ∧ cm = cm ∧ lg = lg)) ∧ ((0 = 1 ∧ i = en0) ∨ (0 = 0 ∧ i < en0)) from by rw [← hpn]; refine ⟨hRR, ?_, by omega⟩; first | exact Or.inl ⟨hJ.2.2.2.2.2.2.1 (by omega), rfl, rfl⟩ | exact Or.inr ⟨hJ.2.2.2.2.2.2.2 (by omega), rfl, rfl⟩)
                · refine lv_iconst (v := iI 1) hx hb dTo_measureNumeral_121 rfl ?_
                  refine lv_goto (tgt := 126) hx hb dTo_measureNumeral_122 (by decide) ?_
                  exact rt_z hx hb hr hlocks hK hS dTo_measureNumeral_126 (nrw_bool (by omega)) (lg, cm, i) hP hD (show nmR D (np D st0) en0 i ∧ ((hasD D (np D st0) i ∧ cm = 48 ∧ lg = i - st0) ∨ (¬ hasD D (np D st0) i ∧ cm = cm ∧ lg = lg)) ∧ ((1 = 1 ∧ i = en0) ∨ (1 = 0 ∧ i < en0)) from by rw [← hpn]; refine ⟨hRR, ?_, by omega⟩; first | exact Or.inl ⟨hJ.2.2.2.2.2.2.1 (by omega), rfl, rfl⟩ | exact Or.inr ⟨hJ.2.2.2.2.2.2.2 (by omega), rfl, rfl⟩)
              · refine lv_aload_n hx hb dTo_measureNumeral_97 rfl (lv_at hl 3 rfl) ?_
                refine lv_bipush (v := iI 48) hx hb dTo_measureNumeral_98 (by decide) ?_
                refine va_put (D := (dC, dI)) (ci := 3) (v := .int (iI 48)) (ty := .char) (C := "MacroReckoner$Token") (T := TTo) (N := 6) hx hb hts inTo tyTo tyTo_ok nmTo hown hK hP hD hS 0 rfl rfl 0 (by decide) (hts _ wt1_55) (fun _ h9 => h9) rfl (by decide +kernel) (nrw_char (by omega) (by omega)) (fit_char (by omega) (by omega)) (Nat.le_of_ble_eq_true rfl) dTo_measureNumeral_100 (fun H locs hP hD hS => ?_)
                have hP : va_P (dC, dI) vwCl (wTo dA to 48 rg ((.ref tr)) st0 en0 lg (wCh dA tr nn D [])) H := hP
                have hD : va_D A (wTo dA to 48 rg ((.ref tr)) st0 en0 lg (wCh dA tr nn D [])) := hD
                refine lv_aload_n hx hb dTo_measureNumeral_103 rfl (lv_at hl 3 rfl) ?_
                refine lv_iload_n hx hb dTo_measureNumeral_104 rfl (lv_at hl 2 rfl) ?_
                refine lv_aload_n hx hb dTo_measureNumeral_105 rfl (lv_at hl 3 rfl) ?_
                refine va_get (D := (dC, dI)) (ci := 3) (v := .int (iI st0)) (C := "MacroReckoner$Token") (T := TTo) (N := 6) hx hb hts inTo hown hK hP 0 rfl rfl 3 (by decide) (hts _ wt1_61) (fun _ h9 => h9) rfl dTo_measureNumeral_106 ?_
                refine iv_isub hx hb dTo_measureNumeral_109 ?_
                refine va_put (D := (dC, dI)) (ci := 3) (v := .int (iI (i - st0))) (ty := .int) (C := "MacroReckoner$Token") (T := TTo) (N := 6) hx hb hts inTo tyTo tyTo_ok nmTo hown hK hP hD hS 0 rfl rfl 5 (by decide) (hts _ wt1_64) (fun _ h9 => h9) rfl (by decide +kernel) rfl rfl (Nat.le_of_ble_eq_true rfl) dTo_measureNumeral_110 (fun H locs hP hD hS => ?_)
                have hP : va_P (dC, dI) vwCl (wTo dA to 48 rg ((.ref tr)) st0 en0 (i - st0) (wCh dA tr nn D [])) H := hP
                have hD : va_D A (wTo dA to 48 rg ((.ref tr)) st0 en0 (i - st0) (wCh dA tr nn D [])) := hD
                refine lv_iload_n hx hb dTo_measureNumeral_113 rfl (lv_at hl 2 rfl) ?_
                refine lv_aload_n hx hb dTo_measureNumeral_114 rfl (lv_at hl 3 rfl) ?_
                refine va_get (D := (dC, dI)) (ci := 3) (v := .int (iI en0)) (C := "MacroReckoner$Token") (T := TTo) (N := 6) hx hb hts inTo hown hK hP 0 rfl rfl 4 (by decide) (hts _ wt1_63) (fun _ h9 => h9) rfl dTo_measureNumeral_115 ?_
                refine iv_icmp_ne (tgt := 125) hx hb dTo_measureNumeral_118 (by decide) ⟨by omega, by omega⟩ ⟨by omega, by omega⟩ (fun hc118 => ?_) (fun hc118 => ?_)
                · refine lv_iconst (v := iI 0) hx hb dTo_measureNumeral_125 rfl ?_
                  exact rt_z hx hb hr hlocks hK hS dTo_measureNumeral_126 (nrw_bool (by omega)) (i - st0, 48, i) hP hD (show nmR D (np D st0) en0 i ∧ ((hasD D (np D st0) i ∧ 48 = 48 ∧ (i - st0) = i - st0) ∨ (¬ hasD D (np D st0) i ∧ 48 = cm ∧ (i - st0) = lg)) ∧ ((0 = 1 ∧ i = en0) ∨ (0 = 0 ∧ i < en0)) from by rw [← hpn]; refine ⟨hRR, ?_, by omega⟩; first | exact Or.inl ⟨hJ.2.2.2.2.2.2.1 (by omega), rfl, rfl⟩ | exact Or.inr ⟨hJ.2.2.2.2.2.2.2 (by omega), rfl, rfl⟩)
                · refine lv_iconst (v := iI 1) hx hb dTo_measureNumeral_121 rfl ?_
                  refine lv_goto (tgt := 126) hx hb dTo_measureNumeral_122 (by decide) ?_
                  exact rt_z hx hb hr hlocks hK hS dTo_measureNumeral_126 (nrw_bool (by omega)) (i - st0, 48, i) hP hD (show nmR D (np D st0) en0 i ∧ ((hasD D (np D st0) i ∧ 48 = 48 ∧ (i - st0) = i - st0) ∨ (¬ hasD D (np D st0) i ∧ 48 = cm ∧ (i - st0) = lg)) ∧ ((1 = 1 ∧ i = en0) ∨ (1 = 0 ∧ i < en0)) from by rw [← hpn]; refine ⟨hRR, ?_, by omega⟩; first | exact Or.inl ⟨hJ.2.2.2.2.2.2.1 (by omega), rfl, rfl⟩ | exact Or.inr ⟨hJ.2.2.2.2.2.2.2 (by omega), rfl, rfl⟩)
            · refine lv_iload_n hx hb dTo_measureNumeral_63 rfl (lv_at hl 0 rfl) ?_
              refine iv_if_ne (tgt := 93) hx hb dTo_measureNumeral_64 (by decide) ⟨by omega, by omega⟩ (fun hc64 => ?_) (fun hc64 => ?_)
              · have hRR : nmR D p0 en0 i := nmz_e hJ hi (by omega)
                refine lv_iload_n hx hb dTo_measureNumeral_93 rfl (lv_at hl 1 rfl) ?_
                refine iv_if_le (tgt := 113) hx hb dTo_measureNumeral_94 (by decide) ⟨by omega, by omega⟩ (fun hc94 => ?_) (fun hc94 => ?_)
                · refine lv_iload_n hx hb dTo_measureNumeral_113 rfl (lv_at hl 2 rfl) ?_
                  refine lv_aload_n hx hb dTo_measureNumeral_114 rfl (lv_at hl 3 rfl) ?_
                  refine va_get (D := (dC, dI)) (ci := 3) (v := .int (iI en0)) (C := "MacroReckoner$Token") (T := TTo) (N := 6) hx hb hts inTo hown hK hP 0 rfl rfl 4 (by decide) (hts _ wt1_63) (fun _ h9 => h9) rfl dTo_measureNumeral_115 ?_
                  refine iv_icmp_ne (tgt := 125) hx hb dTo_measureNumeral_118 (by decide) ⟨by omega, by omega⟩ ⟨by omega, by omega⟩ (fun hc118 => ?_) (fun hc118 => ?_)
                  · refine lv_iconst (v := iI 0) hx hb dTo_measureNumeral_125 rfl ?_
                    exact rt_z hx hb hr hlocks hK hS dTo_measureNumeral_126 (nrw_bool (by omega)) (lg, cm, i) hP hD (show nmR D (np D st0) en0 i ∧ ((hasD D (np D st0) i ∧ cm = 48 ∧ lg = i - st0) ∨ (¬ hasD D (np D st0) i ∧ cm = cm ∧ lg = lg)) ∧ ((0 = 1 ∧ i = en0) ∨ (0 = 0 ∧ i < en0)) from by rw [← hpn]; refine ⟨hRR, ?_, by omega⟩; first | exact Or.inl ⟨hJ.2.2.2.2.2.2.1 (by omega), rfl, rfl⟩ | exact Or.inr ⟨hJ.2.2.2.2.2.2.2 (by omega), rfl, rfl⟩)
                  · refine lv_iconst (v := iI 1) hx hb dTo_measureNumeral_121 rfl ?_
                    refine lv_goto (tgt := 126) hx hb dTo_measureNumeral_122 (by decide) ?_
                    exact rt_z hx hb hr hlocks hK hS dTo_measureNumeral_126 (nrw_bool (by omega)) (lg, cm, i) hP hD (show nmR D (np D st0) en0 i ∧ ((hasD D (np D st0) i ∧ cm = 48 ∧ lg = i - st0) ∨ (¬ hasD D (np D st0) i ∧ cm = cm ∧ lg = lg)) ∧ ((1 = 1 ∧ i = en0) ∨ (1 = 0 ∧ i < en0)) from by rw [← hpn]; refine ⟨hRR, ?_, by omega⟩; first | exact Or.inl ⟨hJ.2.2.2.2.2.2.1 (by omega), rfl, rfl⟩ | exact Or.inr ⟨hJ.2.2.2.2.2.2.2 (by omega), rfl, rfl⟩)
                · refine lv_aload_n hx hb dTo_measureNumeral_97 rfl (lv_at hl 3 rfl) ?_
                  refine lv_bipush (v := iI 48) hx hb dTo_measureNumeral_98 (by decide) ?_
                  refine va_put (D := (dC, dI)) (ci := 3) (v := .int (iI 48)) (ty := .char) (C := "MacroReckoner$Token") (T := TTo) (N := 6) hx hb hts inTo tyTo tyTo_ok nmTo hown hK hP hD hS 0 rfl rfl 0 (by decide) (hts _ wt1_55) (fun _ h9 => h9) rfl (by decide +kernel) (nrw_char (by omega) (by omega)) (fit_char (by omega) (by omega)) (Nat.le_of_ble_eq_true rfl) dTo_measureNumeral_100 (fun H locs hP hD hS => ?_)
                  have hP : va_P (dC, dI) vwCl (wTo dA to 48 rg ((.ref tr)) st0 en0 lg (wCh dA tr nn D [])) H := hP
                  have hD : va_D A (wTo dA to 48 rg ((.ref tr)) st0 en0 lg (wCh dA tr nn D [])) := hD
                  refine lv_aload_n hx hb dTo_measureNumeral_103 rfl (lv_at hl 3 rfl) ?_
                  refine lv_iload_n hx hb dTo_measureNumeral_104 rfl (lv_at hl 2 rfl) ?_
                  refine lv_aload_n hx hb dTo_measureNumeral_105 rfl (lv_at hl 3 rfl) ?_
                  refine va_get (D := (dC, dI)) (ci := 3) (v := .int (iI st0)) (C := "MacroReckoner$Token") (T := TTo) (N := 6) hx hb hts inTo hown hK hP 0 rfl rfl 3 (by decide) (hts _ wt1_61) (fun _ h9 => h9) rfl dTo_measureNumeral_106 ?_
                  refine iv_isub hx hb dTo_measureNumeral_109 ?_
                  refine va_put (D := (dC, dI)) (ci := 3) (v := .int (iI (i - st0))) (ty := .int) (C := "MacroReckoner$Token") (T := TTo) (N := 6) hx hb hts inTo tyTo tyTo_ok nmTo hown hK hP hD hS 0 rfl rfl 5 (by decide) (hts _ wt1_64) (fun _ h9 => h9) rfl (by decide +kernel) rfl rfl (Nat.le_of_ble_eq_true rfl) dTo_measureNumeral_110 (fun H locs hP hD hS => ?_)
                  have hP : va_P (dC, dI) vwCl (wTo dA to 48 rg ((.ref tr)) st0 en0 (i - st0) (wCh dA tr nn D [])) H := hP
                  have hD : va_D A (wTo dA to 48 rg ((.ref tr)) st0 en0 (i - st0) (wCh dA tr nn D [])) := hD
                  refine lv_iload_n hx hb dTo_measureNumeral_113 rfl (lv_at hl 2 rfl) ?_
                  refine lv_aload_n hx hb dTo_measureNumeral_114 rfl (lv_at hl 3 rfl) ?_
                  refine va_get (D := (dC, dI)) (ci := 3) (v := .int (iI en0)) (C := "MacroReckoner$Token") (T := TTo) (N := 6) hx hb hts inTo hown hK hP 0 rfl rfl 4 (by decide) (hts _ wt1_63) (fun _ h9 => h9) rfl dTo_measureNumeral_115 ?_
                  refine iv_icmp_ne (tgt := 125) hx hb dTo_measureNumeral_118 (by decide) ⟨by omega, by omega⟩ ⟨by omega, by omega⟩ (fun hc118 => ?_) (fun hc118 => ?_)
                  · refine lv_iconst (v := iI 0) hx hb dTo_measureNumeral_125 rfl ?_
                    exact rt_z hx hb hr hlocks hK hS dTo_measureNumeral_126 (nrw_bool (by omega)) (i - st0, 48, i) hP hD (show nmR D (np D st0) en0 i ∧ ((hasD D (np D st0) i ∧ 48 = 48 ∧ (i - st0) = i - st0) ∨ (¬ hasD D (np D st0) i ∧ 48 = cm ∧ (i - st0) = lg)) ∧ ((0 = 1 ∧ i = en0) ∨ (0 = 0 ∧ i < en0)) from by rw [← hpn]; refine ⟨hRR, ?_, by omega⟩; first | exact Or.inl ⟨hJ.2.2.2.2.2.2.1 (by omega), rfl, rfl⟩ | exact Or.inr ⟨hJ.2.2.2.2.2.2.2 (by omega), rfl, rfl⟩)
                  · refine lv_iconst (v := iI 1) hx hb dTo_measureNumeral_121 rfl ?_
                    refine lv_goto (tgt := 126) hx hb dTo_measureNumeral_122 (by decide) ?_
                    exact rt_z hx hb hr hlocks hK hS dTo_measureNumeral_126 (nrw_bool (by omega)) (i - st0, 48, i) hP hD (show nmR D (np D st0) en0 i ∧ ((hasD D (np D st0) i ∧ 48 = 48 ∧ (i - st0) = i - st0) ∨ (¬ hasD D (np D st0) i ∧ 48 = cm ∧ (i - st0) = lg)) ∧ ((1 = 1 ∧ i = en0) ∨ (1 = 0 ∧ i < en0)) from by rw [← hpn]; refine ⟨hRR, ?_, by omega⟩; first | exact Or.inl ⟨hJ.2.2.2.2.2.2.1 (by omega), rfl, rfl⟩ | exact Or.inr ⟨hJ.2.2.2.2.2.2.2 (by omega), rfl, rfl⟩)
              · refine lv_aload_n hx hb dTo_measureNumeral_67 rfl (lv_at hl 3 rfl) ?_
                refine va_get (D := (dC, dI)) (ci := 3) (v := .ref tr) (C := "MacroReckoner$Token") (T := TTo) (N := 6) hx hb hts inTo hown hK hP 0 rfl rfl 2 (by decide) (hts _ wt1_59) (fun _ h9 => h9) rfl dTo_measureNumeral_68 ?_
                refine lv_iload_n hx hb dTo_measureNumeral_71 rfl (lv_at hl 2 rfl) ?_
                refine iv_cald hx hb hK hP 1 1 rfl rfl (by omega) dTo_measureNumeral_72 (by omega) (by omega) ?_
                refine lv_bipush (v := iI 46) hx hb dTo_measureNumeral_73 (by decide) ?_
                refine iv_icmp_ne (tgt := 84) hx hb dTo_measureNumeral_75 (by decide) ⟨by omega, by omega⟩ ⟨by decide, by decide⟩ (fun hc75 => ?_) (fun hc75 => ?_)
                · refine lv_iinc (k := 1) (lv' := [(2, .int (iI (dgs + 1))), (3, .int (iI pts)), (1, .int (iI i)), (0, .ref to)]) (v := iI (dgs + 1)) hx hb dTo_measureNumeral_84 hl rfl (iI_add _ _).symm (by decide) rfl (fun ls hl => ?_)
                  refine lv_iinc (k := 2) (lv' := [(1, .int (iI (i + 1))), (2, .int (iI (dgs + 1))), (3, .int (iI pts)), (0, .ref to)]) (v := iI (i + 1)) hx hb dTo_measureNumeral_87 hl rfl (iI_add _ _).symm (by decide) rfl (fun ls hl => ?_)
                  refine lv_goto (tgt := 32) hx hb dTo_measureNumeral_90 (by decide) ?_
                  exact ih32 (i + 1) (dgs + 1) pts H locs ls (by omega) (by first | exact nmz_p hJ hc75 (by omega) | exact nmz_d hJ (by omega)) (by omega) hP hD hS (lv_sub hl [2, 1, 0, 3] rfl)
                · refine lv_iinc (k := 0) (lv' := [(3, .int (iI (pts + 1))), (2, .int (iI dgs)), (1, .int (iI i)), (0, .ref to)]) (v := iI (pts + 1)) hx hb dTo_measureNumeral_78 hl rfl (iI_add _ _).symm (by decide) rfl (fun ls hl => ?_)
                  refine lv_goto (tgt := 87) hx hb dTo_measureNumeral_81 (by decide) ?_
                  refine lv_iinc (k := 2) (lv' := [(1, .int (iI (i + 1))), (3, .int (iI (pts + 1))), (2, .int (iI dgs)), (0, .ref to)]) (v := iI (i + 1)) hx hb dTo_measureNumeral_87 hl rfl (iI_add _ _).symm (by decide) rfl (fun ls hl => ?_)
                  refine lv_goto (tgt := 32) hx hb dTo_measureNumeral_90 (by decide) ?_
                  exact ih32 (i + 1) dgs (pts + 1) H locs ls (by omega) (by first | exact nmz_p hJ hc75 (by omega) | exact nmz_d hJ (by omega)) (by omega) hP hD hS (lv_sub hl [1, 2, 0, 3] rfl)
    exact L32 _ p0 0 0 H locs ls (by omega) (by exact nmz_0) (Nat.lt_succ_self _) hP hD hS (lv_sub hl [0, 1, 2, 3] rfl)
  · refine lv_aload_n hx hb dTo_measureNumeral_14 rfl (lv_at hl 0 rfl) ?_
    refine va_get (D := (dC, dI)) (ci := 3) (v := .int (iI st0)) (C := "MacroReckoner$Token") (T := TTo) (N := 6) hx hb hts inTo hown hK hP 0 rfl rfl 3 (by decide) (hts _ wt1_61) (fun _ h9 => h9) rfl dTo_measureNumeral_15 ?_
    refine lv_iconst (v := iI 1) hx hb dTo_measureNumeral_18 rfl ?_
    refine iv_iadd hx hb dTo_measureNumeral_19 ?_
    refine lv_goto (tgt := 27) hx hb dTo_measureNumeral_20 (by decide) ?_
    refine lv_istore_n (lv' := [(1, .int (iI (st0 + 1))), (0, .ref to)]) hx hb dTo_measureNumeral_27 rfl hl (by decide) rfl (fun ls hl => ?_)
    obtain ⟨p0, e_p0⟩ : ∃ z : Int, z = st0 + 1 := ⟨_, rfl⟩
    rw [← e_p0] at hl
    have hpn : p0 = np D st0 := by rw [e_p0]; unfold np; first | rw [if_pos hc11] | rw [if_neg hc11]
    have hpb : st0 ≤ p0 ∧ p0 ≤ st0 + 1 := by omega
    refine lv_iconst (v := iI 0) hx hb dTo_measureNumeral_28 rfl ?_
    refine lv_istore_n (lv' := [(2, .int (iI 0)), (1, .int (iI p0)), (0, .ref to)]) hx hb dTo_measureNumeral_29 rfl hl (by decide) rfl (fun ls hl => ?_)
    refine lv_iconst (v := iI 0) hx hb dTo_measureNumeral_30 rfl ?_
    refine lv_istore_n (lv' := [(3, .int (iI 0)), (2, .int (iI 0)), (1, .int (iI p0)), (0, .ref to)]) hx hb dTo_measureNumeral_31 rfl hl (by decide) rfl (fun ls hl => ?_)
    have L32 : ∀ (n : Nat) (i : Int) (dgs : Int) (pts : Int) (H : Heap) (locs : List Loc) (ls : Array Slot), (i ≤ en0) → (nmJ D p0 i dgs pts) → (en0 - i).toNat < n → va_P (dC, dI) vwCl (wTo dA to cm rg ((.ref tr)) st0 en0 lg (wCh dA tr nn D [])) H → va_D A (wTo dA to cm rg ((.ref tr)) st0 en0 lg (wCh dA tr nn D [])) → va_S A s.heap H locs → lv_has ls 4 [(3, .int (iI pts)), (2, .int (iI dgs)), (1, .int (iI i)), (0, .ref to)] → W p l e rmTo_measureNumeral s m [.ref to].toArray below meth c H locs 0 0 (MQ below (qTo_measureNumeral dC dI dA to cm rg st0 en0 lg tr nn D A) [.ref to].toArray s 0 0 A) (F0 m 32 ls []) := by
      intro n
      induction n with
      | zero => intro i dgs pts H locs ls hi hJ hn; omega
      | succ n ih =>
        intro i dgs pts H locs ls hi hJ hn hP hD hS hl
        have hj1 := hJ.1
        have hj2 := hJ.2.1
        have hj3 := hJ.2.2.1
        have ih32 := ih
        refine lv_iload_n hx hb dTo_measureNumeral_32 rfl (lv_at hl 2 rfl) ?_
        refine lv_aload_n hx hb dTo_measureNumeral_33 rfl (lv_at hl 3 rfl) ?_
        refine va_get (D := (dC, dI)) (ci := 3) (v := .int (iI en0)) (C := "MacroReckoner$Token") (T := TTo) (N := 6) hx hb hts inTo hown hK hP 0 rfl rfl 4 (by decide) (hts _ wt1_63) (fun _ h9 => h9) rfl dTo_measureNumeral_34 ?_
        refine iv_icmp_ge (tgt := 93) hx hb dTo_measureNumeral_37 (by decide) ⟨by omega, by omega⟩ ⟨by omega, by omega⟩ (fun hc37 => ?_) (fun hc37 => ?_)
        · have hRR : nmR D p0 en0 i := nmz_e hJ hi (by omega)
          refine lv_iload_n hx hb dTo_measureNumeral_93 rfl (lv_at hl 1 rfl) ?_
          refine iv_if_le (tgt := 113) hx hb dTo_measureNumeral_94 (by decide) ⟨by omega, by omega⟩ (fun hc94 => ?_) (fun hc94 => ?_)
          · refine lv_iload_n hx hb dTo_measureNumeral_113 rfl (lv_at hl 2 rfl) ?_
            refine lv_aload_n hx hb dTo_measureNumeral_114 rfl (lv_at hl 3 rfl) ?_
            refine va_get (D := (dC, dI)) (ci := 3) (v := .int (iI en0)) (C := "MacroReckoner$Token") (T := TTo) (N := 6) hx hb hts inTo hown hK hP 0 rfl rfl 4 (by decide) (hts _ wt1_63) (fun _ h9 => h9) rfl dTo_measureNumeral_115 ?_
            refine iv_icmp_ne (tgt := 125) hx hb dTo_measureNumeral_118 (by decide) ⟨by omega, by omega⟩ ⟨by omega, by omega⟩ (fun hc118 => ?_) (fun hc118 => ?_)
            · refine lv_iconst (v := iI 0) hx hb dTo_measureNumeral_125 rfl ?_
              exact rt_z hx hb hr hlocks hK hS dTo_measureNumeral_126 (nrw_bool (by omega)) (lg, cm, i) hP hD (show nmR D (np D st0) en0 i ∧ ((hasD D (np D st0) i ∧ cm = 48 ∧ lg = i - st0) ∨ (¬ hasD D (np D st0) i ∧ cm = cm ∧ lg = lg)) ∧ ((0 = 1 ∧ i = en0) ∨ (0 = 0 ∧ i < en0)) from by rw [← hpn]; refine ⟨hRR, ?_, by omega⟩; first | exact Or.inl ⟨hJ.2.2.2.2.2.2.1 (by omega), rfl, rfl⟩ | exact Or.inr ⟨hJ.2.2.2.2.2.2.2 (by omega), rfl, rfl⟩)
            · refine lv_iconst (v := iI 1) hx hb dTo_measureNumeral_121 rfl ?_
              refine lv_goto (tgt := 126) hx hb dTo_measureNumeral_122 (by decide) ?_
              exact rt_z hx hb hr hlocks hK hS dTo_measureNumeral_126 (nrw_bool (by omega)) (lg, cm, i) hP hD (show nmR D (np D st0) en0 i ∧ ((hasD D (np D st0) i ∧ cm = 48 ∧ lg = i - st0) ∨ (¬ hasD D (np D st0) i ∧ cm = cm ∧ lg = lg)) ∧ ((1 = 1 ∧ i = en0) ∨ (1 = 0 ∧ i < en0)) from by rw [← hpn]; refine ⟨hRR, ?_, by omega⟩; first | exact Or.inl ⟨hJ.2.2.2.2.2.2.1 (by omega), rfl, rfl⟩ | exact Or.inr ⟨hJ.2.2.2.2.2.2.2 (by omega), rfl, rfl⟩)
          · refine lv_aload_n hx hb dTo_measureNumeral_97 rfl (lv_at hl 3 rfl) ?_
            refine lv_bipush (v := iI 48) hx hb dTo_measureNumeral_98 (by decide) ?_
            refine va_put (D := (dC, dI)) (ci := 3) (v := .int (iI 48)) (ty := .char) (C := "MacroReckoner$Token") (T := TTo) (N := 6) hx hb hts inTo tyTo tyTo_ok nmTo hown hK hP hD hS 0 rfl rfl 0 (by decide) (hts _ wt1_55) (fun _ h9 => h9) rfl (by decide +kernel) (nrw_char (by omega) (by omega)) (fit_char (by omega) (by omega)) (Nat.le_of_ble_eq_true rfl) dTo_measureNumeral_100 (fun H locs hP hD hS => ?_)
            have hP : va_P (dC, dI) vwCl (wTo dA to 48 rg ((.ref tr)) st0 en0 lg (wCh dA tr nn D [])) H := hP
            have hD : va_D A (wTo dA to 48 rg ((.ref tr)) st0 en0 lg (wCh dA tr nn D [])) := hD
            refine lv_aload_n hx hb dTo_measureNumeral_103 rfl (lv_at hl 3 rfl) ?_
            refine lv_iload_n hx hb dTo_measureNumeral_104 rfl (lv_at hl 2 rfl) ?_
            refine lv_aload_n hx hb dTo_measureNumeral_105 rfl (lv_at hl 3 rfl) ?_
            refine va_get (D := (dC, dI)) (ci := 3) (v := .int (iI st0)) (C := "MacroReckoner$Token") (T := TTo) (N := 6) hx hb hts inTo hown hK hP 0 rfl rfl 3 (by decide) (hts _ wt1_61) (fun _ h9 => h9) rfl dTo_measureNumeral_106 ?_
            refine iv_isub hx hb dTo_measureNumeral_109 ?_
            refine va_put (D := (dC, dI)) (ci := 3) (v := .int (iI (i - st0))) (ty := .int) (C := "MacroReckoner$Token") (T := TTo) (N := 6) hx hb hts inTo tyTo tyTo_ok nmTo hown hK hP hD hS 0 rfl rfl 5 (by decide) (hts _ wt1_64) (fun _ h9 => h9) rfl (by decide +kernel) rfl rfl (Nat.le_of_ble_eq_true rfl) dTo_measureNumeral_110 (fun H locs hP hD hS => ?_)
            have hP : va_P (dC, dI) vwCl (wTo dA to 48 rg ((.ref tr)) st0 en0 (i - st0) (wCh dA tr nn D [])) H := hP
            have hD : va_D A (wTo dA to 48 rg ((.ref tr)) st0 en0 (i - st0) (wCh dA tr nn D [])) := hD
            refine lv_iload_n hx hb dTo_measureNumeral_113 rfl (lv_at hl 2 rfl) ?_
            refine lv_aload_n hx hb dTo_measureNumeral_114 rfl (lv_at hl 3 rfl) ?_
            refine va_get (D := (dC, dI)) (ci := 3) (v := .int (iI en0)) (C := "MacroReckoner$Token") (T := TTo) (N := 6) hx hb hts inTo hown hK hP 0 rfl rfl 4 (by decide) (hts _ wt1_63) (fun _ h9 => h9) rfl dTo_measureNumeral_115 ?_
            refine iv_icmp_ne (tgt := 125) hx hb dTo_measureNumeral_118 (by decide) ⟨by omega, by omega⟩ ⟨by omega, by omega⟩ (fun hc118 => ?_) (fun hc118 => ?_)
            · refine lv_iconst (v := iI 0) hx hb dTo_measureNumeral_125 rfl ?_
              exact rt_z hx hb hr hlocks hK hS dTo_measureNumeral_126 (nrw_bool (by omega)) (i - st0, 48, i) hP hD (show nmR D (np D st0) en0 i ∧ ((hasD D (np D st0) i ∧ 48 = 48 ∧ (i - st0) = i - st0) ∨ (¬ hasD D (np D st0) i ∧ 48 = cm ∧ (i - st0) = lg)) ∧ ((0 = 1 ∧ i = en0) ∨ (0 = 0 ∧ i < en0)) from by rw [← hpn]; refine ⟨hRR, ?_, by omega⟩; first | exact Or.inl ⟨hJ.2.2.2.2.2.2.1 (by omega), rfl, rfl⟩ | exact Or.inr ⟨hJ.2.2.2.2.2.2.2 (by omega), rfl, rfl⟩)
            · refine lv_iconst (v := iI 1) hx hb dTo_measureNumeral_121 rfl ?_
              refine lv_goto (tgt := 126) hx hb dTo_measureNumeral_122 (by decide) ?_
              exact rt_z hx hb hr hlocks hK hS dTo_measureNumeral_126 (nrw_bool (by omega)) (i - st0, 48, i) hP hD (show nmR D (np D st0) en0 i ∧ ((hasD D (np D st0) i ∧ 48 = 48 ∧ (i - st0) = i - st0) ∨ (¬ hasD D (np D st0) i ∧ 48 = cm ∧ (i - st0) = lg)) ∧ ((1 = 1 ∧ i = en0) ∨ (1 = 0 ∧ i < en0)) from by rw [← hpn]; refine ⟨hRR, ?_, by omega⟩; first | exact Or.inl ⟨hJ.2.2.2.2.2.2.1 (by omega), rfl, rfl⟩ | exact Or.inr ⟨hJ.2.2.2.2.2.2.2 (by omega), rfl, rfl⟩)
        · have hdi := ht4 i (by have := hJ.1; omega) hc37
          refine lv_aload_n hx hb dTo_measureNumeral_40 rfl (lv_at hl 3 rfl) ?_
          refine va_get (D := (dC, dI)) (ci := 3) (v := .ref tr) (C := "MacroReckoner$Token") (T := TTo) (N := 6) hx hb hts inTo hown hK hP 0 rfl rfl 2 (by decide) (hts _ wt1_59) (fun _ h9 => h9) rfl dTo_measureNumeral_41 ?_
          refine lv_iload_n hx hb dTo_measureNumeral_44 rfl (lv_at hl 2 rfl) ?_
          refine iv_cald hx hb hK hP 1 1 rfl rfl (by omega) dTo_measureNumeral_45 (by omega) (by omega) ?_
          refine cv_i (va_runS (As := [.int (iI (D i))]) (rest := []) ⟨hx, hb, hml, hown, hts⟩ (cTo_isDigit l dC dI dA (D i) (by omega) H.size) (cwS 1 hts (gdS wt2_133 wt2_134 wt1_3 wt2_135) rfl rfl rfl ⟨rfl, by decide, by decide, by decide +kernel⟩ ⟨by decide, by decide⟩) (preS hK hP hD hS hA XN_ok trivial [] rfl rfl) rfl rfl hl.1 rfl (lv_room (Nat.le_of_ble_eq_true rfl)) dTo_measureNumeral_46 ⟨Nat.zero_le _, Nat.zero_le _⟩) hP hD hS hA [] [0, 1] rfl (fun v_ => wTo dA to cm rg ((.ref tr)) st0 en0 lg (wCh dA tr nn D [])) (fun _ => rfl) (wTo dA to cm rg ((.ref tr)) st0 en0 lg (wCh dA tr nn D [])) rfl (fun _ => rfl) [to, tr] rfl (fun _ => rfl) (fun _ => rfl) (fun r46 u_ H locs hq46 hP hD hS => ?_)
          have hP : va_P (dC, dI) vwCl (wTo dA to cm rg ((.ref tr)) st0 en0 lg (wCh dA tr nn D [])) H := hP
          have hD : va_D A (wTo dA to cm rg ((.ref tr)) st0 en0 lg (wCh dA tr nn D [])) := hD
          have hq46 : (r46 = 1 ∧ 48 ≤ (D i) ∧ (D i) ≤ 57) ∨ (r46 = 0 ∧ ((D i) < 48 ∨ 57 < (D i))) := hq46
          refine iv_if_ne (tgt := 67) hx hb dTo_measureNumeral_49 (by decide) ⟨by omega, by omega⟩ (fun hc49 => ?_) (fun hc49 => ?_)
          · refine lv_aload_n hx hb dTo_measureNumeral_67 rfl (lv_at hl 3 rfl) ?_
            refine va_get (D := (dC, dI)) (ci := 3) (v := .ref tr) (C := "MacroReckoner$Token") (T := TTo) (N := 6) hx hb hts inTo hown hK hP 0 rfl rfl 2 (by decide) (hts _ wt1_59) (fun _ h9 => h9) rfl dTo_measureNumeral_68 ?_
            refine lv_iload_n hx hb dTo_measureNumeral_71 rfl (lv_at hl 2 rfl) ?_
            refine iv_cald hx hb hK hP 1 1 rfl rfl (by omega) dTo_measureNumeral_72 (by omega) (by omega) ?_
            refine lv_bipush (v := iI 46) hx hb dTo_measureNumeral_73 (by decide) ?_
            refine iv_icmp_ne (tgt := 84) hx hb dTo_measureNumeral_75 (by decide) ⟨by omega, by omega⟩ ⟨by decide, by decide⟩ (fun hc75 => ?_) (fun hc75 => ?_)
            · refine lv_iinc (k := 1) (lv' := [(2, .int (iI (dgs + 1))), (3, .int (iI pts)), (1, .int (iI i)), (0, .ref to)]) (v := iI (dgs + 1)) hx hb dTo_measureNumeral_84 hl rfl (iI_add _ _).symm (by decide) rfl (fun ls hl => ?_)
              refine lv_iinc (k := 2) (lv' := [(1, .int (iI (i + 1))), (2, .int (iI (dgs + 1))), (3, .int (iI pts)), (0, .ref to)]) (v := iI (i + 1)) hx hb dTo_measureNumeral_87 hl rfl (iI_add _ _).symm (by decide) rfl (fun ls hl => ?_)
              refine lv_goto (tgt := 32) hx hb dTo_measureNumeral_90 (by decide) ?_
              exact ih32 (i + 1) (dgs + 1) pts H locs ls (by omega) (by first | exact nmz_p hJ hc75 (by omega) | exact nmz_d hJ (by omega)) (by omega) hP hD hS (lv_sub hl [2, 1, 0, 3] rfl)
            · refine lv_iinc (k := 0) (lv' := [(3, .int (iI (pts + 1))), (2, .int (iI dgs)), (1, .int (iI i)), (0, .ref to)]) (v := iI (pts + 1)) hx hb dTo_measureNumeral_78 hl rfl (iI_add _ _).symm (by decide) rfl (fun ls hl => ?_)
              refine lv_goto (tgt := 87) hx hb dTo_measureNumeral_81 (by decide) ?_
              refine lv_iinc (k := 2) (lv' := [(1, .int (iI (i + 1))), (3, .int (iI (pts + 1))), (2, .int (iI dgs)), (0, .ref to)]) (v := iI (i + 1)) hx hb dTo_measureNumeral_87 hl rfl (iI_add _ _).symm (by decide) rfl (fun ls hl => ?_)
              refine lv_goto (tgt := 32) hx hb dTo_measureNumeral_90 (by decide) ?_
              exact ih32 (i + 1) dgs (pts + 1) H locs ls (by omega) (by first | exact nmz_p hJ hc75 (by omega) | exact nmz_d hJ (by omega)) (by omega) hP hD hS (lv_sub hl [1, 2, 0, 3] rfl)
          · refine lv_aload_n hx hb dTo_measureNumeral_52 rfl (lv_at hl 3 rfl) ?_
            refine va_get (D := (dC, dI)) (ci := 3) (v := .ref tr) (C := "MacroReckoner$Token") (T := TTo) (N := 6) hx hb hts inTo hown hK hP 0 rfl rfl 2 (by decide) (hts _ wt1_59) (fun _ h9 => h9) rfl dTo_measureNumeral_53 ?_
            refine lv_iload_n hx hb dTo_measureNumeral_56 rfl (lv_at hl 2 rfl) ?_
            refine iv_cald hx hb hK hP 1 1 rfl rfl (by omega) dTo_measureNumeral_57 (by omega) (by omega) ?_
            refine lv_bipush (v := iI 46) hx hb dTo_measureNumeral_58 (by decide) ?_
            refine iv_icmp_ne (tgt := 93) hx hb dTo_measureNumeral_60 (by decide) ⟨by omega, by omega⟩ ⟨by decide, by decide⟩ (fun hc60 => ?_) (fun hc60 => ?_)
            · have hRR : nmR D p0 en0 i := nmz_e hJ hi (by omega)
              refine lv_iload_n hx hb dTo_measureNumeral_93 rfl (lv_at hl 1 rfl) ?_
              refine iv_if_le (tgt := 113) hx hb dTo_measureNumeral_94 (by decide) ⟨by omega, by omega⟩ (fun hc94 => ?_) (fun hc94 => ?_)
              · refine lv_iload_n hx hb dTo_measureNumeral_113 rfl (lv_at hl 2 rfl) ?_
                refine lv_aload_n hx hb dTo_measureNumeral_114 rfl (lv_at hl 3 rfl) ?_
                refine va_get (D := (dC, dI)) (ci := 3) (v := .int (iI en0)) (C := "MacroReckoner$Token") (T := TTo) (N := 6) hx hb hts inTo hown hK hP 0 rfl rfl 4 (by decide) (hts _ wt1_63) (fun _ h9 => h9) rfl dTo_measureNumeral_115 ?_
                refine iv_icmp_ne (tgt := 125) hx hb dTo_measureNumeral_118 (by decide) ⟨by omega, by omega⟩ ⟨by omega, by omega⟩ (fun hc118 => ?_) (fun hc118 => ?_)
                · refine lv_iconst (v := iI 0) hx hb dTo_measureNumeral_125 rfl ?_
                  exact rt_z hx hb hr hlocks hK hS dTo_measureNumeral_126 (nrw_bool (by omega)) (lg, cm, i) hP hD (show nmR D (np D st0) en0 i ∧ ((hasD D (np D st0) i ∧ cm = 48 ∧ lg = i - st0) ∨ (¬ hasD D (np D st0) i ∧ cm = cm ∧ lg = lg)) ∧ ((0 = 1 ∧ i = en0) ∨ (0 = 0 ∧ i < en0)) from by rw [← hpn]; refine ⟨hRR, ?_, by omega⟩; first | exact Or.inl ⟨hJ.2.2.2.2.2.2.1 (by omega), rfl, rfl⟩ | exact Or.inr ⟨hJ.2.2.2.2.2.2.2 (by omega), rfl, rfl⟩)
                · refine lv_iconst (v := iI 1) hx hb dTo_measureNumeral_121 rfl ?_
                  refine lv_goto (tgt := 126) hx hb dTo_measureNumeral_122 (by decide) ?_
                  exact rt_z hx hb hr hlocks hK hS dTo_measureNumeral_126 (nrw_bool (by omega)) (lg, cm, i) hP hD (show nmR D (np D st0) en0 i ∧ ((hasD D (np D st0) i ∧ cm = 48 ∧ lg = i - st0) ∨ (¬ hasD D (np D st0) i ∧ cm = cm ∧ lg = lg)) ∧ ((1 = 1 ∧ i = en0) ∨ (1 = 0 ∧ i < en0)) from by rw [← hpn]; refine ⟨hRR, ?_, by omega⟩; first | exact Or.inl ⟨hJ.2.2.2.2.2.2.1 (by omega), rfl, rfl⟩ | exact Or.inr ⟨hJ.2.2.2.2.2.2.2 (by omega), rfl, rfl⟩)
              · refine lv_aload_n hx hb dTo_measureNumeral_97 rfl (lv_at hl 3 rfl) ?_
                refine lv_bipush (v := iI 48) hx hb dTo_measureNumeral_98 (by decide) ?_
                refine va_put (D := (dC, dI)) (ci := 3) (v := .int (iI 48)) (ty := .char) (C := "MacroReckoner$Token") (T := TTo) (N := 6) hx hb hts inTo tyTo tyTo_ok nmTo hown hK hP hD hS 0 rfl rfl 0 (by decide) (hts _ wt1_55) (fun _ h9 => h9) rfl (by decide +kernel) (nrw_char (by omega) (by omega)) (fit_char (by omega) (by omega)) (Nat.le_of_ble_eq_true rfl) dTo_measureNumeral_100 (fun H locs hP hD hS => ?_)
                have hP : va_P (dC, dI) vwCl (wTo dA to 48 rg ((.ref tr)) st0 en0 lg (wCh dA tr nn D [])) H := hP
                have hD : va_D A (wTo dA to 48 rg ((.ref tr)) st0 en0 lg (wCh dA tr nn D [])) := hD
                refine lv_aload_n hx hb dTo_measureNumeral_103 rfl (lv_at hl 3 rfl) ?_
                refine lv_iload_n hx hb dTo_measureNumeral_104 rfl (lv_at hl 2 rfl) ?_
                refine lv_aload_n hx hb dTo_measureNumeral_105 rfl (lv_at hl 3 rfl) ?_
                refine va_get (D := (dC, dI)) (ci := 3) (v := .int (iI st0)) (C := "MacroReckoner$Token") (T := TTo) (N := 6) hx hb hts inTo hown hK hP 0 rfl rfl 3 (by decide) (hts _ wt1_61) (fun _ h9 => h9) rfl dTo_measureNumeral_106 ?_
                refine iv_isub hx hb dTo_measureNumeral_109 ?_
                refine va_put (D := (dC, dI)) (ci := 3) (v := .int (iI (i - st0))) (ty := .int) (C := "MacroReckoner$Token") (T := TTo) (N := 6) hx hb hts inTo tyTo tyTo_ok nmTo hown hK hP hD hS 0 rfl rfl 5 (by decide) (hts _ wt1_64) (fun _ h9 => h9) rfl (by decide +kernel) rfl rfl (Nat.le_of_ble_eq_true rfl) dTo_measureNumeral_110 (fun H locs hP hD hS => ?_)
                have hP : va_P (dC, dI) vwCl (wTo dA to 48 rg ((.ref tr)) st0 en0 (i - st0) (wCh dA tr nn D [])) H := hP
                have hD : va_D A (wTo dA to 48 rg ((.ref tr)) st0 en0 (i - st0) (wCh dA tr nn D [])) := hD
                refine lv_iload_n hx hb dTo_measureNumeral_113 rfl (lv_at hl 2 rfl) ?_
                refine lv_aload_n hx hb dTo_measureNumeral_114 rfl (lv_at hl 3 rfl) ?_
                refine va_get (D := (dC, dI)) (ci := 3) (v := .int (iI en0)) (C := "MacroReckoner$Token") (T := TTo) (N := 6) hx hb hts inTo hown hK hP 0 rfl rfl 4 (by decide) (hts _ wt1_63) (fun _ h9 => h9) rfl dTo_measureNumeral_115 ?_
                refine iv_icmp_ne (tgt := 125) hx hb dTo_measureNumeral_118 (by decide) ⟨by omega, by omega⟩ ⟨by omega, by omega⟩ (fun hc118 => ?_) (fun hc118 => ?_)
                · refine lv_iconst (v := iI 0) hx hb dTo_measureNumeral_125 rfl ?_
                  exact rt_z hx hb hr hlocks hK hS dTo_measureNumeral_126 (nrw_bool (by omega)) (i - st0, 48, i) hP hD (show nmR D (np D st0) en0 i ∧ ((hasD D (np D st0) i ∧ 48 = 48 ∧ (i - st0) = i - st0) ∨ (¬ hasD D (np D st0) i ∧ 48 = cm ∧ (i - st0) = lg)) ∧ ((0 = 1 ∧ i = en0) ∨ (0 = 0 ∧ i < en0)) from by rw [← hpn]; refine ⟨hRR, ?_, by omega⟩; first | exact Or.inl ⟨hJ.2.2.2.2.2.2.1 (by omega), rfl, rfl⟩ | exact Or.inr ⟨hJ.2.2.2.2.2.2.2 (by omega), rfl, rfl⟩)
                · refine lv_iconst (v := iI 1) hx hb dTo_measureNumeral_121 rfl ?_
                  refine lv_goto (tgt := 126) hx hb dTo_measureNumeral_122 (by decide) ?_
                  exact rt_z hx hb hr hlocks hK hS dTo_measureNumeral_126 (nrw_bool (by omega)) (i - st0, 48, i) hP hD (show nmR D (np D st0) en0 i ∧ ((hasD D (np D st0) i ∧ 48 = 48 ∧ (i - st0) = i - st0) ∨ (¬ hasD D (np D st0) i ∧ 48 = cm ∧ (i - st0) = lg)) ∧ ((1 = 1 ∧ i = en0) ∨ (1 = 0 ∧ i < en0)) from by rw [← hpn]; refine ⟨hRR, ?_, by omega⟩; first | exact Or.inl ⟨hJ.2.2.2.2.2.2.1 (by omega), rfl, rfl⟩ | exact Or.inr ⟨hJ.2.2.2.2.2.2.2 (by omega), rfl, rfl⟩)
            · refine lv_iload_n hx hb dTo_measureNumeral_63 rfl (lv_at hl 0 rfl) ?_
              refine iv_if_ne (tgt := 93) hx hb dTo_measureNumeral_64 (by decide) ⟨by omega, by omega⟩ (fun hc64 => ?_) (fun hc64 => ?_)
              · have hRR : nmR D p0 en0 i := nmz_e hJ hi (by omega)
                refine lv_iload_n hx hb dTo_measureNumeral_93 rfl (lv_at hl 1 rfl) ?_
                refine iv_if_le (tgt := 113) hx hb dTo_measureNumeral_94 (by decide) ⟨by omega, by omega⟩ (fun hc94 => ?_) (fun hc94 => ?_)
                · refine lv_iload_n hx hb dTo_measureNumeral_113 rfl (lv_at hl 2 rfl) ?_
                  refine lv_aload_n hx hb dTo_measureNumeral_114 rfl (lv_at hl 3 rfl) ?_
                  refine va_get (D := (dC, dI)) (ci := 3) (v := .int (iI en0)) (C := "MacroReckoner$Token") (T := TTo) (N := 6) hx hb hts inTo hown hK hP 0 rfl rfl 4 (by decide) (hts _ wt1_63) (fun _ h9 => h9) rfl dTo_measureNumeral_115 ?_
                  refine iv_icmp_ne (tgt := 125) hx hb dTo_measureNumeral_118 (by decide) ⟨by omega, by omega⟩ ⟨by omega, by omega⟩ (fun hc118 => ?_) (fun hc118 => ?_)
                  · refine lv_iconst (v := iI 0) hx hb dTo_measureNumeral_125 rfl ?_
                    exact rt_z hx hb hr hlocks hK hS dTo_measureNumeral_126 (nrw_bool (by omega)) (lg, cm, i) hP hD (show nmR D (np D st0) en0 i ∧ ((hasD D (np D st0) i ∧ cm = 48 ∧ lg = i - st0) ∨ (¬ hasD D (np D st0) i ∧ cm = cm ∧ lg = lg)) ∧ ((0 = 1 ∧ i = en0) ∨ (0 = 0 ∧ i < en0)) from by rw [← hpn]; refine ⟨hRR, ?_, by omega⟩; first | exact Or.inl ⟨hJ.2.2.2.2.2.2.1 (by omega), rfl, rfl⟩ | exact Or.inr ⟨hJ.2.2.2.2.2.2.2 (by omega), rfl, rfl⟩)
                  · refine lv_iconst (v := iI 1) hx hb dTo_measureNumeral_121 rfl ?_
                    refine lv_goto (tgt := 126) hx hb dTo_measureNumeral_122 (by decide) ?_
                    exact rt_z hx hb hr hlocks hK hS dTo_measureNumeral_126 (nrw_bool (by omega)) (lg, cm, i) hP hD (show nmR D (np D st0) en0 i ∧ ((hasD D (np D st0) i ∧ cm = 48 ∧ lg = i - st0) ∨ (¬ hasD D (np D st0) i ∧ cm = cm ∧ lg = lg)) ∧ ((1 = 1 ∧ i = en0) ∨ (1 = 0 ∧ i < en0)) from by rw [← hpn]; refine ⟨hRR, ?_, by omega⟩; first | exact Or.inl ⟨hJ.2.2.2.2.2.2.1 (by omega), rfl, rfl⟩ | exact Or.inr ⟨hJ.2.2.2.2.2.2.2 (by omega), rfl, rfl⟩)
                · refine lv_aload_n hx hb dTo_measureNumeral_97 rfl (lv_at hl 3 rfl) ?_
                  refine lv_bipush (v := iI 48) hx hb dTo_measureNumeral_98 (by decide) ?_
                  refine va_put (D := (dC, dI)) (ci := 3) (v := .int (iI 48)) (ty := .char) (C := "MacroReckoner$Token") (T := TTo) (N := 6) hx hb hts inTo tyTo tyTo_ok nmTo hown hK hP hD hS 0 rfl rfl 0 (by decide) (hts _ wt1_55) (fun _ h9 => h9) rfl (by decide +kernel) (nrw_char (by omega) (by omega)) (fit_char (by omega) (by omega)) (Nat.le_of_ble_eq_true rfl) dTo_measureNumeral_100 (fun H locs hP hD hS => ?_)
                  have hP : va_P (dC, dI) vwCl (wTo dA to 48 rg ((.ref tr)) st0 en0 lg (wCh dA tr nn D [])) H := hP
                  have hD : va_D A (wTo dA to 48 rg ((.ref tr)) st0 en0 lg (wCh dA tr nn D [])) := hD
                  refine lv_aload_n hx hb dTo_measureNumeral_103 rfl (lv_at hl 3 rfl) ?_
                  refine lv_iload_n hx hb dTo_measureNumeral_104 rfl (lv_at hl 2 rfl) ?_
                  refine lv_aload_n hx hb dTo_measureNumeral_105 rfl (lv_at hl 3 rfl) ?_
                  refine va_get (D := (dC, dI)) (ci := 3) (v := .int (iI st0)) (C := "MacroReckoner$Token") (T := TTo) (N := 6) hx hb hts inTo hown hK hP 0 rfl rfl 3 (by decide) (hts _ wt1_61) (fun _ h9 => h9) rfl dTo_measureNumeral_106 ?_
                  refine iv_isub hx hb dTo_measureNumeral_109 ?_
                  refine va_put (D := (dC, dI)) (ci := 3) (v := .int (iI (i - st0))) (ty := .int) (C := "MacroReckoner$Token") (T := TTo) (N := 6) hx hb hts inTo tyTo tyTo_ok nmTo hown hK hP hD hS 0 rfl rfl 5 (by decide) (hts _ wt1_64) (fun _ h9 => h9) rfl (by decide +kernel) rfl rfl (Nat.le_of_ble_eq_true rfl) dTo_measureNumeral_110 (fun H locs hP hD hS => ?_)
                  have hP : va_P (dC, dI) vwCl (wTo dA to 48 rg ((.ref tr)) st0 en0 (i - st0) (wCh dA tr nn D [])) H := hP
                  have hD : va_D A (wTo dA to 48 rg ((.ref tr)) st0 en0 (i - st0) (wCh dA tr nn D [])) := hD
                  refine lv_iload_n hx hb dTo_measureNumeral_113 rfl (lv_at hl 2 rfl) ?_
                  refine lv_aload_n hx hb dTo_measureNumeral_114 rfl (lv_at hl 3 rfl) ?_
                  refine va_get (D := (dC, dI)) (ci := 3) (v := .int (iI en0)) (C := "MacroReckoner$Token") (T := TTo) (N := 6) hx hb hts inTo hown hK hP 0 rfl rfl 4 (by decide) (hts _ wt1_63) (fun _ h9 => h9) rfl dTo_measureNumeral_115 ?_
                  refine iv_icmp_ne (tgt := 125) hx hb dTo_measureNumeral_118 (by decide) ⟨by omega, by omega⟩ ⟨by omega, by omega⟩ (fun hc118 => ?_) (fun hc118 => ?_)
                  · refine lv_iconst (v := iI 0) hx hb dTo_measureNumeral_125 rfl ?_
                    exact rt_z hx hb hr hlocks hK hS dTo_measureNumeral_126 (nrw_bool (by omega)) (i - st0, 48, i) hP hD (show nmR D (np D st0) en0 i ∧ ((hasD D (np D st0) i ∧ 48 = 48 ∧ (i - st0) = i - st0) ∨ (¬ hasD D (np D st0) i ∧ 48 = cm ∧ (i - st0) = lg)) ∧ ((0 = 1 ∧ i = en0) ∨ (0 = 0 ∧ i < en0)) from by rw [← hpn]; refine ⟨hRR, ?_, by omega⟩; first | exact Or.inl ⟨hJ.2.2.2.2.2.2.1 (by omega), rfl, rfl⟩ | exact Or.inr ⟨hJ.2.2.2.2.2.2.2 (by omega), rfl, rfl⟩)
                  · refine lv_iconst (v := iI 1) hx hb dTo_measureNumeral_121 rfl ?_
                    refine lv_goto (tgt := 126) hx hb dTo_measureNumeral_122 (by decide) ?_
                    exact rt_z hx hb hr hlocks hK hS dTo_measureNumeral_126 (nrw_bool (by omega)) (i - st0, 48, i) hP hD (show nmR D (np D st0) en0 i ∧ ((hasD D (np D st0) i ∧ 48 = 48 ∧ (i - st0) = i - st0) ∨ (¬ hasD D (np D st0) i ∧ 48 = cm ∧ (i - st0) = lg)) ∧ ((1 = 1 ∧ i = en0) ∨ (1 = 0 ∧ i < en0)) from by rw [← hpn]; refine ⟨hRR, ?_, by omega⟩; first | exact Or.inl ⟨hJ.2.2.2.2.2.2.1 (by omega), rfl, rfl⟩ | exact Or.inr ⟨hJ.2.2.2.2.2.2.2 (by omega), rfl, rfl⟩)
              · refine lv_aload_n hx hb dTo_measureNumeral_67 rfl (lv_at hl 3 rfl) ?_
                refine va_get (D := (dC, dI)) (ci := 3) (v := .ref tr) (C := "MacroReckoner$Token") (T := TTo) (N := 6) hx hb hts inTo hown hK hP 0 rfl rfl 2 (by decide) (hts _ wt1_59) (fun _ h9 => h9) rfl dTo_measureNumeral_68 ?_
                refine lv_iload_n hx hb dTo_measureNumeral_71 rfl (lv_at hl 2 rfl) ?_
                refine iv_cald hx hb hK hP 1 1 rfl rfl (by omega) dTo_measureNumeral_72 (by omega) (by omega) ?_
                refine lv_bipush (v := iI 46) hx hb dTo_measureNumeral_73 (by decide) ?_
                refine iv_icmp_ne (tgt := 84) hx hb dTo_measureNumeral_75 (by decide) ⟨by omega, by omega⟩ ⟨by decide, by decide⟩ (fun hc75 => ?_) (fun hc75 => ?_)
                · refine lv_iinc (k := 1) (lv' := [(2, .int (iI (dgs + 1))), (3, .int (iI pts)), (1, .int (iI i)), (0, .ref to)]) (v := iI (dgs + 1)) hx hb dTo_measureNumeral_84 hl rfl (iI_add _ _).symm (by decide) rfl (fun ls hl => ?_)
                  refine lv_iinc (k := 2) (lv' := [(1, .int (iI (i + 1))), (2, .int (iI (dgs + 1))), (3, .int (iI pts)), (0, .ref to)]) (v := iI (i + 1)) hx hb dTo_measureNumeral_87 hl rfl (iI_add _ _).symm (by decide) rfl (fun ls hl => ?_)
                  refine lv_goto (tgt := 32) hx hb dTo_measureNumeral_90 (by decide) ?_
                  exact ih32 (i + 1) (dgs + 1) pts H locs ls (by omega) (by first | exact nmz_p hJ hc75 (by omega) | exact nmz_d hJ (by omega)) (by omega) hP hD hS (lv_sub hl [2, 1, 0, 3] rfl)
                · refine lv_iinc (k := 0) (lv' := [(3, .int (iI (pts + 1))), (2, .int (iI dgs)), (1, .int (iI i)), (0, .ref to)]) (v := iI (pts + 1)) hx hb dTo_measureNumeral_78 hl rfl (iI_add _ _).symm (by decide) rfl (fun ls hl => ?_)
                  refine lv_goto (tgt := 87) hx hb dTo_measureNumeral_81 (by decide) ?_
                  refine lv_iinc (k := 2) (lv' := [(1, .int (iI (i + 1))), (3, .int (iI (pts + 1))), (2, .int (iI dgs)), (0, .ref to)]) (v := iI (i + 1)) hx hb dTo_measureNumeral_87 hl rfl (iI_add _ _).symm (by decide) rfl (fun ls hl => ?_)
                  refine lv_goto (tgt := 32) hx hb dTo_measureNumeral_90 (by decide) ?_
                  exact ih32 (i + 1) dgs (pts + 1) H locs ls (by omega) (by first | exact nmz_p hJ hc75 (by omega) | exact nmz_d hJ (by omega)) (by omega) hP hD hS (lv_sub hl [1, 2, 0, 3] rfl)
    exact L32 _ p0 0 0 H locs ls (by omega) (by exact nmz_0) (Nat.lt_succ_self _) hP hD hS (lv_sub hl [0, 1, 2, 3] rfl)
