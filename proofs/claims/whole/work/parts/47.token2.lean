theorem dTo_measure_0 : decode prog_5_method_3_code 0 = .ok (.aload_n 0, 1) := by decide +kernel
theorem dTo_measure_1 : decode prog_5_method_3_code 1 = .ok (.getfield 11, 3) := by decide +kernel
theorem dTo_measure_4 : decode prog_5_method_3_code 4 = .ok (.lookupswitch 70 #[(60, 65), (61, 65), (62, 65), (91, 60), (108, 65), (115, 65)], 60) := by decide +kernel
theorem dTo_measure_64 : decode prog_5_method_3_code 64 = .ok (.aload_n 0, 1) := by decide +kernel
theorem dTo_measure_65 : decode prog_5_method_3_code 65 = .ok (.invokevirtual 46, 3) := by decide +kernel
theorem dTo_measure_68 : decode prog_5_method_3_code 68 = .ok (.ireturn, 1) := by decide +kernel
theorem dTo_measure_69 : decode prog_5_method_3_code 69 = .ok (.aload_n 0, 1) := by decide +kernel
theorem dTo_measure_70 : decode prog_5_method_3_code 70 = .ok (.invokevirtual 49, 3) := by decide +kernel
theorem dTo_measure_73 : decode prog_5_method_3_code 73 = .ok (.ireturn, 1) := by decide +kernel
theorem dTo_measure_74 : decode prog_5_method_3_code 74 = .ok (.aload_n 0, 1) := by decide +kernel
theorem dTo_measure_75 : decode prog_5_method_3_code 75 = .ok (.getfield 11, 3) := by decide +kernel
theorem dTo_measure_78 : decode prog_5_method_3_code 78 = .ok (.invokestatic 52, 3) := by decide +kernel
theorem dTo_measure_81 : decode prog_5_method_3_code 81 = .ok (.ifCond .eq 14, 3) := by decide +kernel
theorem dTo_measure_84 : decode prog_5_method_3_code 84 = .ok (.aload_n 0, 1) := by decide +kernel
theorem dTo_measure_85 : decode prog_5_method_3_code 85 = .ok (.invokevirtual 56, 3) := by decide +kernel
theorem dTo_measure_88 : decode prog_5_method_3_code 88 = .ok (.ifCond .eq 7, 3) := by decide +kernel
theorem dTo_measure_91 : decode prog_5_method_3_code 91 = .ok (.iconst 1, 1) := by decide +kernel
theorem dTo_measure_92 : decode prog_5_method_3_code 92 = .ok (.goto 4, 3) := by decide +kernel
theorem dTo_measure_95 : decode prog_5_method_3_code 95 = .ok (.iconst 0, 1) := by decide +kernel
theorem dTo_measure_96 : decode prog_5_method_3_code 96 = .ok (.ireturn, 1) := by decide +kernel
abbrev qTo_measure (dC : Nat → ClassId) (dI : Nat → Nat → Nat) (dA : Nat → ClassId) (to : Nat) (cm : Int) (rg : Int) (st0 : Int) (en0 : Int) (lg : Int) (tr : Nat) (nn : Nat) (D : Int → Int) (A : Nat → Prop) : Array Value → State → Outcome → State → Prop := QI (dC, dI) vwCl (tyA dA) (fun (r : Int) (v_ : Int × Int × Int) => msR D st0 en0 cm rg v_.2.2 v_.2.1 v_.1 r) (fun (v_ : Int × Int × Int) => wTo dA to v_.2.2 v_.2.1 ((.ref tr)) st0 en0 v_.1 (wCh dA tr nn D [])) A
abbrev rmTo_measure : Room := { frames := 2, cells := 0, slots := 0, locals := 43 }
set_option maxRecDepth 100000 in
set_option maxHeartbeats 1000000 in
theorem cTo_measure (l : Launch) (dC : Nat → ClassId) (dI : Nat → Nat → Nat) (dA : Nat → ClassId) (to : Nat) (cm : Int) (rg : Int) (st0 : Int) (en0 : Int) (lg : Int) (tr : Nat) (nn : Nat) (D : Int → Int) (hT : TP nn D st0 en0) (hse : st0 < en0) (hcm : 0 ≤ cm ∧ cm < 65536) (hlg : lg = 1) (sz : Nat) : Met l yTo_measure wsTo_measure rmTo_measure (PC (dC, dI) vwCl (tyA dA) XN [.ref to] (wTo dA to cm rg ((.ref tr)) st0 en0 lg (wCh dA tr nn D [])) sz) (qTo_measure dC dI dA to cm rg st0 en0 lg tr nn D (va_A (wTo dA to cm rg ((.ref tr)) st0 en0 lg (wCh dA tr nn D [])) sz)) 0 0 (va_A (wTo dA to cm rg ((.ref tr)) st0 en0 lg (wCh dA tr nn D [])) sz) := by
  refine met_of (cc := prog_5_method_3_code) (maxL := 1) (ret := (some .boolean)) (Qc := qTo_measure dC dI dA to cm rg st0 en0 lg tr nn D) XN_ok (by decide) rfl (Nat.le_of_ble_eq_true rfl) ?_
  intro p e s m below meth c ls A hx hb hr hml hown hts hlocks hnm hK hP hD hA hX hS hl
  have hl : lv_has ls 1 [(0, .ref to)] := hl
  have hown : s.vm.findClass "MacroReckoner$Token" = some m.cls := hown
  obtain ⟨H, hH⟩ : ∃ H : Heap, H = s.heap := ⟨_, rfl⟩
  obtain ⟨locs, hlo⟩ : ∃ L : List Loc, L = [] := ⟨_, rfl⟩
  have hP : va_P (dC, dI) vwCl (wTo dA to cm rg ((.ref tr)) st0 en0 lg (wCh dA tr nn D [])) H := hH ▸ hP
  have hS : va_S A s.heap H locs := by rw [hH, hlo]; exact hS
  suffices hgo : W p l e rmTo_measure s m [.ref to].toArray below meth c H locs 0 0 (MQ below (qTo_measure dC dI dA to cm rg st0 en0 lg tr nn D A) [.ref to].toArray s 0 0 A) (F0 m 0 ls []) by rw [hH, hlo] at hgo; exact hgo
  clear hH hlo
  refine lv_aload_n hx hb dTo_measure_0 rfl (lv_at hl 0 rfl) ?_
  refine va_get (D := (dC, dI)) (ci := 3) (v := .int (iI cm)) (C := "MacroReckoner$Token") (T := TTo) (N := 6) hx hb hts inTo hown hK hP 0 rfl rfl 0 (by decide) (hts _ wt1_55) (fun _ h9 => h9) rfl dTo_measure_1 ?_
  by_cases hs4_69 : cm = 60 ∨ cm = 61 ∨ cm = 62 ∨ cm = 108 ∨ cm = 115
  · refine lv_lookup (off := 65) (tgt := 69) hx hb dTo_measure_4 (by decide) (by rw [iI_toInt ⟨by omega, by omega⟩]; show Op.lookupswitch.offset [(60, 65), (61, 65), (62, 65), (91, 60), (108, 65), (115, 65)] 70 cm = 65; rcases hs4_69 with hk | hk | hk | hk | hk <;> (rw [hk]; rfl)) (by decide) ?_
    refine lv_aload_n hx hb dTo_measure_69 rfl (lv_at hl 0 rfl) ?_
    refine cv_i (va_runV (C := "MacroReckoner$Token") (As := []) (rest := []) ⟨hx, hb, hml, hown, hts⟩ (cTo_measurePair l dC dI dA to cm rg st0 en0 lg tr nn D (by exact hT) (by exact hse) H.size) (cwV 0 hts (gdV wt2_126 wt2_128 ws1_7 wt1_3 wt2_129) rfl rfl rfl ⟨rfl, by decide, by decide, by decide +kernel⟩ ⟨by decide, by decide⟩) (preV (q := ("MacroReckoner$Token", TTo, 6)) hK hP hD hS hA XN_ok trivial [0, 1] rfl rfl 0 rfl rfl) rfl rfl hl.1 rfl (lv_room (Nat.le_of_ble_eq_true rfl)) dTo_measure_70 ⟨Nat.zero_le _, Nat.zero_le _⟩) hP hD hS hA [0, 1] [] rfl (fun v_ => wTo dA to v_.2.2 v_.2.1 ((.ref tr)) st0 en0 v_.1 (wCh dA tr nn D [])) (fun _ => rfl) ([] : va_W) rfl (fun _ => rfl) [to, tr] rfl (fun _ => rfl) (fun _ => rfl) (fun r70 u_ H locs hq70 hP hD hS => ?_)
    obtain ⟨lg1_70, rg1_70, cm1_70⟩ := u_
    have hP : va_P (dC, dI) vwCl (wTo dA to cm1_70 rg1_70 ((.ref tr)) st0 en0 lg1_70 (wCh dA tr nn D [])) H := hP
    have hD : va_D A (wTo dA to cm1_70 rg1_70 ((.ref tr)) st0 en0 lg1_70 (wCh dA tr nn D [])) := hD
    have hq70 : (r70 = 1 ∧ en0 ≤ st0 + 1 ∧ lg1_70 = lg ∧ rg1_70 = rg ∧ cm1_70 = cm) ∨ (r70 = 0 ∧ st0 + 1 < en0 ∧ lg1_70 = 2 ∧ rg1_70 = D (st0 + 1) - 97 ∧ ((0 ≤ rg1_70 ∧ rg1_70 < 26 ∧ cm1_70 = cm) ∨ ((rg1_70 < 0 ∨ 26 ≤ rg1_70) ∧ cm1_70 = 0))) := hq70
    exact rt_z hx hb hr hlocks hK hS dTo_measure_73 (nrw_bool (by omega)) (lg1_70, rg1_70, cm1_70) hP hD (show msR D st0 en0 cm rg cm1_70 rg1_70 lg1_70 r70 from by refine Or.inr (Or.inl ⟨by unfold prs; omega, ?_⟩); omega)
  by_cases hs4_64 : cm = 91
  · refine lv_lookup (off := 60) (tgt := 64) hx hb dTo_measure_4 (by decide) (by rw [iI_toInt ⟨by omega, by omega⟩]; show Op.lookupswitch.offset [(60, 65), (61, 65), (62, 65), (91, 60), (108, 65), (115, 65)] 70 cm = 60; rw [hs4_64]; rfl) (by decide) ?_
    refine lv_aload_n hx hb dTo_measure_64 rfl (lv_at hl 0 rfl) ?_
    refine cv_i (va_runV (C := "MacroReckoner$Token") (As := []) (rest := []) ⟨hx, hb, hml, hown, hts⟩ (cTo_measureText l dC dI dA to cm rg st0 en0 lg tr nn D (by exact hT) (by exact hse) H.size) (cwV 0 hts (gdV wt2_122 wt2_124 ws1_6 wt1_3 wt2_125) rfl rfl rfl ⟨rfl, by decide, by decide, by decide +kernel⟩ ⟨by decide, by decide⟩) (preV (q := ("MacroReckoner$Token", TTo, 6)) hK hP hD hS hA XN_ok trivial [0, 1] rfl rfl 0 rfl rfl) rfl rfl hl.1 rfl (lv_room (Nat.le_of_ble_eq_true rfl)) dTo_measure_65 ⟨Nat.zero_le _, Nat.zero_le _⟩) hP hD hS hA [0, 1] [] rfl (fun v_ => wTo dA to cm rg ((.ref tr)) st0 en0 v_ (wCh dA tr nn D [])) (fun _ => rfl) ([] : va_W) rfl (fun _ => rfl) [to, tr] rfl (fun _ => rfl) (fun _ => rfl) (fun r65 u_ H locs hq65 hP hD hS => ?_)
    obtain ⟨lg1_65, rfl⟩ : ∃ z, z = u_ := ⟨_, rfl⟩
    have hP : va_P (dC, dI) vwCl (wTo dA to cm rg ((.ref tr)) st0 en0 lg1_65 (wCh dA tr nn D [])) H := hP
    have hD : va_D A (wTo dA to cm rg ((.ref tr)) st0 en0 lg1_65 (wCh dA tr nn D [])) := hD
    have hq65 : (r65 = 0 ∧ txR D st0 en0 lg1_65) ∨ (r65 = 1 ∧ lg1_65 = lg ∧ txN D st0 en0) := hq65
    exact rt_z hx hb hr hlocks hK hS dTo_measure_68 (nrw_bool (by omega)) (lg1_65, rg, cm) hP hD (show msR D st0 en0 cm rg cm rg lg1_65 r65 from by refine Or.inl ⟨by omega, rfl, rfl, ?_⟩; rcases hq65 with z | ⟨z1, z2, z3⟩; exact Or.inl z; exact Or.inr ⟨z1, by omega, z3⟩)
  refine lv_lookup (off := 70) (tgt := 74) hx hb dTo_measure_4 (by decide) (by rw [iI_toInt ⟨by omega, by omega⟩]; show Op.lookupswitch.offset [(60, 65), (61, 65), (62, 65), (91, 60), (108, 65), (115, 65)] 70 cm = 70; simp only [Op.lookupswitch.offset_cons, Op.lookupswitch.offset_nil]; (first | rw [if_neg (by omega)] | simp); (first | rw [if_neg (by omega)] | simp); (first | rw [if_neg (by omega)] | simp); (first | rw [if_neg (by omega)] | simp); (first | rw [if_neg (by omega)] | simp); (first | rw [if_neg (by omega)] | simp)) (by decide) ?_
  refine lv_aload_n hx hb dTo_measure_74 rfl (lv_at hl 0 rfl) ?_
  refine va_get (D := (dC, dI)) (ci := 3) (v := .int (iI cm)) (C := "MacroReckoner$Token") (T := TTo) (N := 6) hx hb hts inTo hown hK hP 0 rfl rfl 0 (by decide) (hts _ wt1_55) (fun _ h9 => h9) rfl dTo_measure_75 ?_
  refine cv_i (va_runS (As := [.int (iI cm)]) (rest := []) ⟨hx, hb, hml, hown, hts⟩ (cTo_startsNumeral l dC dI dA cm (by omega) H.size) (cwS 1 hts (gdS wt2_130 wt2_131 wt1_3 wt2_132) rfl rfl rfl ⟨rfl, by decide, by decide, by decide +kernel⟩ ⟨by decide, by decide⟩) (preS hK hP hD hS hA XN_ok trivial [] rfl rfl) rfl rfl hl.1 rfl (lv_room (Nat.le_of_ble_eq_true rfl)) dTo_measure_78 ⟨Nat.zero_le _, Nat.zero_le _⟩) hP hD hS hA [] [0, 1] rfl (fun v_ => wTo dA to cm rg ((.ref tr)) st0 en0 lg (wCh dA tr nn D [])) (fun _ => rfl) (wTo dA to cm rg ((.ref tr)) st0 en0 lg (wCh dA tr nn D [])) rfl (fun _ => rfl) [to, tr] rfl (fun _ => rfl) (fun _ => rfl) (fun r78 u_ H locs hq78 hP hD hS => ?_)
  have hP : va_P (dC, dI) vwCl (wTo dA to cm rg ((.ref tr)) st0 en0 lg (wCh dA tr nn D [])) H := hP
  have hD : va_D A (wTo dA to cm rg ((.ref tr)) st0 en0 lg (wCh dA tr nn D [])) := hD
  have hq78 : (r78 = 1 ∧ (cm = 95 ∨ cm = 46 ∨ (48 ≤ cm ∧ cm ≤ 57))) ∨ (r78 = 0 ∧ cm ≠ 95 ∧ cm ≠ 46 ∧ (cm < 48 ∨ 57 < cm)) := hq78
  refine iv_if_eq (tgt := 95) hx hb dTo_measure_81 (by decide) ⟨by omega, by omega⟩ (fun hc81 => ?_) (fun hc81 => ?_)
  · refine lv_iconst (v := iI 0) hx hb dTo_measure_95 rfl ?_
    exact rt_z hx hb hr hlocks hK hS dTo_measure_96 (nrw_bool (by omega)) (lg, rg, cm) hP hD (show msR D st0 en0 cm rg cm rg lg 0 from by first | exact Or.inr (Or.inr (Or.inl ⟨by unfold nst; omega, rfl, q1_85, hq85.1, by rcases hq85.2.1 with z | ⟨z1, z2, z3⟩; exact Or.inl z; exact Or.inr ⟨z1, z2, by omega⟩, by have := hq85.2.2; omega⟩)) | exact Or.inr (Or.inr (Or.inr ⟨by omega, by unfold prs; omega, by unfold nst; omega, rfl, rfl, rfl, by omega⟩)))
  · refine lv_aload_n hx hb dTo_measure_84 rfl (lv_at hl 0 rfl) ?_
    refine cv_i (va_runV (C := "MacroReckoner$Token") (As := []) (rest := []) ⟨hx, hb, hml, hown, hts⟩ (cTo_measureNumeral l dC dI dA to cm rg st0 en0 lg tr nn D (by exact hT) (by exact hse) H.size) (cwV 0 hts (gdV wt2_136 wt2_138 ws1_8 wt1_3 wt2_139) rfl rfl rfl ⟨rfl, by decide, by decide, by decide +kernel⟩ ⟨by decide, by decide⟩) (preV (q := ("MacroReckoner$Token", TTo, 6)) hK hP hD hS hA XN_ok trivial [0, 1] rfl rfl 0 rfl rfl) rfl rfl hl.1 rfl (lv_room (Nat.le_of_ble_eq_true rfl)) dTo_measure_85 ⟨Nat.zero_le _, Nat.zero_le _⟩) hP hD hS hA [0, 1] [] rfl (fun v_ => wTo dA to v_.2.1 rg ((.ref tr)) st0 en0 v_.1 (wCh dA tr nn D [])) (fun _ => rfl) ([] : va_W) rfl (fun _ => rfl) [to, tr] rfl (fun _ => rfl) (fun _ => rfl) (fun r85 u_ H locs hq85 hP hD hS => ?_)
    obtain ⟨lg1_85, cm1_85, q1_85⟩ := u_
    have hP : va_P (dC, dI) vwCl (wTo dA to cm1_85 rg ((.ref tr)) st0 en0 lg1_85 (wCh dA tr nn D [])) H := hP
    have hD : va_D A (wTo dA to cm1_85 rg ((.ref tr)) st0 en0 lg1_85 (wCh dA tr nn D [])) := hD
    have hq85 : nmR D (np D st0) en0 q1_85 ∧ ((hasD D (np D st0) q1_85 ∧ cm1_85 = 48 ∧ lg1_85 = q1_85 - st0) ∨ (¬ hasD D (np D st0) q1_85 ∧ cm1_85 = cm ∧ lg1_85 = lg)) ∧ ((r85 = 1 ∧ q1_85 = en0) ∨ (r85 = 0 ∧ q1_85 < en0)) := hq85
    refine iv_if_eq (tgt := 95) hx hb dTo_measure_88 (by decide) ⟨by omega, by omega⟩ (fun hc88 => ?_) (fun hc88 => ?_)
    · refine lv_iconst (v := iI 0) hx hb dTo_measure_95 rfl ?_
      exact rt_z hx hb hr hlocks hK hS dTo_measure_96 (nrw_bool (by omega)) (lg1_85, rg, cm1_85) hP hD (show msR D st0 en0 cm rg cm1_85 rg lg1_85 0 from by first | exact Or.inr (Or.inr (Or.inl ⟨by unfold nst; omega, rfl, q1_85, hq85.1, by rcases hq85.2.1 with z | ⟨z1, z2, z3⟩; exact Or.inl z; exact Or.inr ⟨z1, z2, by omega⟩, by have := hq85.2.2; omega⟩)) | exact Or.inr (Or.inr (Or.inr ⟨by omega, by unfold prs; omega, by unfold nst; omega, rfl, rfl, rfl, by omega⟩)))
    · refine lv_iconst (v := iI 1) hx hb dTo_measure_91 rfl ?_
      refine lv_goto (tgt := 96) hx hb dTo_measure_92 (by decide) ?_
      exact rt_z hx hb hr hlocks hK hS dTo_measure_96 (nrw_bool (by omega)) (lg1_85, rg, cm1_85) hP hD (show msR D st0 en0 cm rg cm1_85 rg lg1_85 1 from by first | exact Or.inr (Or.inr (Or.inl ⟨by unfold nst; omega, rfl, q1_85, hq85.1, by rcases hq85.2.1 with z | ⟨z1, z2, z3⟩; exact Or.inl z; exact Or.inr ⟨z1, z2, by omega⟩, by have := hq85.2.2; omega⟩)) | exact Or.inr (Or.inr (Or.inr ⟨by omega, by unfold prs; omega, by unfold nst; omega, rfl, rfl, rfl, by omega⟩)))

theorem dTo_read_0 : decode prog_5_method_2_code 0 = .ok (.aload_n 1, 1) := by decide +kernel
theorem dTo_read_1 : decode prog_5_method_2_code 1 = .ok (.invokevirtual 32, 3) := by decide +kernel
theorem dTo_read_4 : decode prog_5_method_2_code 4 = .ok (.aload_n 0, 1) := by decide +kernel
theorem dTo_read_5 : decode prog_5_method_2_code 5 = .ok (.aload_n 1, 1) := by decide +kernel
theorem dTo_read_6 : decode prog_5_method_2_code 6 = .ok (.getfield 37, 3) := by decide +kernel
theorem dTo_read_9 : decode prog_5_method_2_code 9 = .ok (.putfield 19, 3) := by decide +kernel
theorem dTo_read_12 : decode prog_5_method_2_code 12 = .ok (.aload_n 0, 1) := by decide +kernel
theorem dTo_read_13 : decode prog_5_method_2_code 13 = .ok (.aload_n 1, 1) := by decide +kernel
theorem dTo_read_14 : decode prog_5_method_2_code 14 = .ok (.getfield 38, 3) := by decide +kernel
theorem dTo_read_17 : decode prog_5_method_2_code 17 = .ok (.putfield 23, 3) := by decide +kernel
theorem dTo_read_20 : decode prog_5_method_2_code 20 = .ok (.aload_n 0, 1) := by decide +kernel
theorem dTo_read_21 : decode prog_5_method_2_code 21 = .ok (.aload_n 1, 1) := by decide +kernel
theorem dTo_read_22 : decode prog_5_method_2_code 22 = .ok (.getfield 41, 3) := by decide +kernel
theorem dTo_read_25 : decode prog_5_method_2_code 25 = .ok (.putfield 26, 3) := by decide +kernel
theorem dTo_read_28 : decode prog_5_method_2_code 28 = .ok (.aload_n 0, 1) := by decide +kernel
theorem dTo_read_29 : decode prog_5_method_2_code 29 = .ok (.getfield 23, 3) := by decide +kernel
theorem dTo_read_32 : decode prog_5_method_2_code 32 = .ok (.aload_n 0, 1) := by decide +kernel
theorem dTo_read_33 : decode prog_5_method_2_code 33 = .ok (.getfield 26, 3) := by decide +kernel
theorem dTo_read_36 : decode prog_5_method_2_code 36 = .ok (.if_icmp .lt 5, 3) := by decide +kernel
theorem dTo_read_39 : decode prog_5_method_2_code 39 = .ok (.iconst 0, 1) := by decide +kernel
theorem dTo_read_40 : decode prog_5_method_2_code 40 = .ok (.ireturn, 1) := by decide +kernel
theorem dTo_read_41 : decode prog_5_method_2_code 41 = .ok (.aload_n 0, 1) := by decide +kernel
theorem dTo_read_42 : decode prog_5_method_2_code 42 = .ok (.aload_n 0, 1) := by decide +kernel
theorem dTo_read_43 : decode prog_5_method_2_code 43 = .ok (.getfield 19, 3) := by decide +kernel
theorem dTo_read_46 : decode prog_5_method_2_code 46 = .ok (.aload_n 0, 1) := by decide +kernel
theorem dTo_read_47 : decode prog_5_method_2_code 47 = .ok (.getfield 23, 3) := by decide +kernel
theorem dTo_read_50 : decode prog_5_method_2_code 50 = .ok (.caload, 1) := by decide +kernel
theorem dTo_read_51 : decode prog_5_method_2_code 51 = .ok (.putfield 11, 3) := by decide +kernel
theorem dTo_read_54 : decode prog_5_method_2_code 54 = .ok (.aload_n 0, 1) := by decide +kernel
theorem dTo_read_55 : decode prog_5_method_2_code 55 = .ok (.iconst 1, 1) := by decide +kernel
theorem dTo_read_56 : decode prog_5_method_2_code 56 = .ok (.putfield 29, 3) := by decide +kernel
theorem dTo_read_59 : decode prog_5_method_2_code 59 = .ok (.aload_n 0, 1) := by decide +kernel
theorem dTo_read_60 : decode prog_5_method_2_code 60 = .ok (.invokevirtual 42, 3) := by decide +kernel
theorem dTo_read_63 : decode prog_5_method_2_code 63 = .ok (.istore_n 3, 1) := by decide +kernel
theorem dTo_read_64 : decode prog_5_method_2_code 64 = .ok (.iload_n 3, 1) := by decide +kernel
theorem dTo_read_65 : decode prog_5_method_2_code 65 = .ok (.ifCond .eq 21, 3) := by decide +kernel
theorem dTo_read_68 : decode prog_5_method_2_code 68 = .ok (.iload_n 2, 1) := by decide +kernel
theorem dTo_read_69 : decode prog_5_method_2_code 69 = .ok (.ifCond .eq 17, 3) := by decide +kernel
theorem dTo_read_72 : decode prog_5_method_2_code 72 = .ok (.aload_n 0, 1) := by decide +kernel
theorem dTo_read_73 : decode prog_5_method_2_code 73 = .ok (.getfield 11, 3) := by decide +kernel
theorem dTo_read_76 : decode prog_5_method_2_code 76 = .ok (.bipush 48, 2) := by decide +kernel
theorem dTo_read_78 : decode prog_5_method_2_code 78 = .ok (.if_icmp .eq 8, 3) := by decide +kernel
theorem dTo_read_81 : decode prog_5_method_2_code 81 = .ok (.aload_n 0, 1) := by decide +kernel
theorem dTo_read_82 : decode prog_5_method_2_code 82 = .ok (.iconst 0, 1) := by decide +kernel
theorem dTo_read_83 : decode prog_5_method_2_code 83 = .ok (.putfield 11, 3) := by decide +kernel
theorem dTo_read_86 : decode prog_5_method_2_code 86 = .ok (.iload_n 2, 1) := by decide +kernel
theorem dTo_read_87 : decode prog_5_method_2_code 87 = .ok (.ifCond .ne 7, 3) := by decide +kernel
theorem dTo_read_90 : decode prog_5_method_2_code 90 = .ok (.iload_n 3, 1) := by decide +kernel
theorem dTo_read_91 : decode prog_5_method_2_code 91 = .ok (.ifCond .ne 7, 3) := by decide +kernel
theorem dTo_read_94 : decode prog_5_method_2_code 94 = .ok (.iconst 1, 1) := by decide +kernel
theorem dTo_read_95 : decode prog_5_method_2_code 95 = .ok (.goto 4, 3) := by decide +kernel
theorem dTo_read_98 : decode prog_5_method_2_code 98 = .ok (.iconst 0, 1) := by decide +kernel
theorem dTo_read_99 : decode prog_5_method_2_code 99 = .ok (.ireturn, 1) := by decide +kernel
abbrev qTo_read (dC : Nat → ClassId) (dI : Nat → Nat → Nat) (dA : Nat → ClassId) (dS : Nat → Nat) (to : Nat) (cm : Int) (rg : Int) (rv : Value) (st0 : Int) (en0 : Int) (lg : Int) (ta : Nat) (tr : Nat) (nn : Nat) (D : Int → Int) (at_ : Int) (en : Int) (it : Int) (A : Nat → Prop) : Array Value → State → Outcome → State → Prop := QI (dC, dI) vwCl (tyA dA) (fun (r : Int) (v_ : Int × Int × Int × Int × Int × Int) => skR D at_ en v_.1 ∧ ((v_.1 = en ∧ r = 0 ∧ v_.2.2.2.2.2 = cm ∧ v_.2.2.1 = rg ∧ v_.2.2.2.1 = lg) ∨ (v_.1 < en ∧ msR D v_.1 en (D v_.1) rg v_.2.1 v_.2.2.1 v_.2.2.2.1 v_.2.2.2.2.1 ∧ ((v_.2.2.2.2.1 = 1 ∧ it = 1 ∧ v_.2.1 ≠ 48 ∧ v_.2.2.2.2.2 = 0) ∨ (¬ (v_.2.2.2.2.1 = 1 ∧ it = 1 ∧ v_.2.1 ≠ 48) ∧ v_.2.2.2.2.2 = v_.2.1)) ∧ ((r = 1 ∧ (it = 1 ∨ v_.2.2.2.2.1 = 0)) ∨ (r = 0 ∧ it = 0 ∧ v_.2.2.2.2.1 = 1))))) (fun (v_ : Int × Int × Int × Int × Int × Int) => wTo dA to v_.2.2.2.2.2 v_.2.2.1 ((.ref tr)) v_.1 en v_.2.2.2.1 (wTa dA ta tr nn D v_.1 en [])) A
abbrev rmTo_read : Room := { frames := 3, cells := 0, slots := 0, locals := 63 }
set_option maxRecDepth 100000 in
set_option maxHeartbeats 1000000 in
theorem cTo_read (l : Launch) (dC : Nat → ClassId) (dI : Nat → Nat → Nat) (dA : Nat → ClassId) (dS : Nat → Nat) (to : Nat) (cm : Int) (rg : Int) (rv : Value) (st0 : Int) (en0 : Int) (lg : Int) (ta : Nat) (tr : Nat) (nn : Nat) (D : Int → Int) (at_ : Int) (en : Int) (it : Int) (hT : TP nn D at_ en) (hit : it = 0 ∨ it = 1) (sz : Nat) : Met l yTo_read wsTo_read rmTo_read (PC (dC, dI) vwCl (tyA dA) (XC dS) [.ref to, .ref ta, .int (iI it)] (wTo dA to cm rg rv st0 en0 lg (wTa dA ta tr nn D at_ en [])) sz) (qTo_read dC dI dA dS to cm rg rv st0 en0 lg ta tr nn D at_ en it (va_A (wTo dA to cm rg rv st0 en0 lg (wTa dA ta tr nn D at_ en [])) sz)) 0 0 (va_A (wTo dA to cm rg rv st0 en0 lg (wTa dA ta tr nn D at_ en [])) sz) := by
  refine met_of (cc := prog_5_method_2_code) (maxL := 4) (ret := (some .boolean)) (Qc := qTo_read dC dI dA dS to cm rg rv st0 en0 lg ta tr nn D at_ en it) (XC_ok dS) (by decide) rfl (Nat.le_of_ble_eq_true rfl) ?_
  intro p e s m below meth c ls A hx hb hr hml hown hts hlocks hnm hK hP hD hA hX hS hl
  have hl : lv_has ls 4 [(0, .ref to), (1, .ref ta), (2, .int (iI it))] := hl
  have hown : s.vm.findClass "MacroReckoner$Token" = some m.cls := hown
  obtain ⟨H, hH⟩ : ∃ H : Heap, H = s.heap := ⟨_, rfl⟩
  obtain ⟨locs, hlo⟩ : ∃ L : List Loc, L = [] := ⟨_, rfl⟩
  have hP : va_P (dC, dI) vwCl (wTo dA to cm rg rv st0 en0 lg (wTa dA ta tr nn D at_ en [])) H := hH ▸ hP
  have hS : va_S A s.heap H locs := by rw [hH, hlo]; exact hS
  suffices hgo : W p l e rmTo_read s m [.ref to, .ref ta, .int (iI it)].toArray below meth c H locs 0 0 (MQ below (qTo_read dC dI dA dS to cm rg rv st0 en0 lg ta tr nn D at_ en it A) [.ref to, .ref ta, .int (iI it)].toArray s 0 0 A) (F0 m 0 ls []) by rw [hH, hlo] at hgo; exact hgo
  clear hH hlo
  have hTk := hT
  obtain ⟨ht0, ht1, ht2, ht3, ht4⟩ := hT
  refine lv_aload_n hx hb dTo_read_0 rfl (lv_at hl 1 rfl) ?_
  refine cv_v (va_runV (C := "MacroReckoner$Tape") (As := []) (rest := []) ⟨hx, hb, hml, hown, hts⟩ (cTa_skipSpaces l dC dI dA ta tr nn D at_ en (by exact hTk) H.size) (cwV 0 hts (gdV wt2_114 wt2_115 wt2_116 wt1_2 wt2_117) rfl rfl rfl ⟨rfl, by decide, by decide, by decide +kernel⟩ ⟨by decide, by decide⟩) (preV (q := ("MacroReckoner$Tape", TTa, 3)) hK hP hD hS hA XN_ok trivial [1, 2] rfl rfl 0 rfl rfl) rfl rfl hl.1 rfl (lv_room (Nat.le_of_ble_eq_true rfl)) dTo_read_1 ⟨Nat.zero_le _, Nat.zero_le _⟩) hP hD hS hA [1, 2] [0] rfl (fun v_ => wTo dA to cm rg rv st0 en0 lg (wTa dA ta tr nn D v_ en [])) (fun _ => rfl) (wTo dA to cm rg rv st0 en0 lg []) rfl (fun _ => rfl) [to, ta, tr] rfl (fun _ => rfl) (fun _ => rfl) (fun u_ H locs hq1 hP hD hS => ?_)
  obtain ⟨a1, rfl⟩ : ∃ z, z = u_ := ⟨_, rfl⟩
  have hP : va_P (dC, dI) vwCl (wTo dA to cm rg rv st0 en0 lg (wTa dA ta tr nn D a1 en [])) H := hP
  have hD : va_D A (wTo dA to cm rg rv st0 en0 lg (wTa dA ta tr nn D a1 en [])) := hD
  have hq1 : skR D at_ en a1 := hq1
  have ha1 := hq1.1
  have ha2 := hq1.2.1
  refine lv_aload_n hx hb dTo_read_4 rfl (lv_at hl 0 rfl) ?_
  refine lv_aload_n hx hb dTo_read_5 rfl (lv_at hl 1 rfl) ?_
  refine va_getN (D := (dC, dI)) (ci := 2) (v := .ref tr) (C := "MacroReckoner$Tape") (T := TTa) (N := 3) hx hb hts inTa hown hK hP 1 rfl rfl 0 (by decide) (va_Nw.use rfl (hX.1 ("MacroReckoner$Token", 37, "MacroReckoner$Tape", "row", "[C", "MacroReckoner") (List.mem_of_getElem? (i := 0) rfl))) (fun _ h9 => h9) rfl dTo_read_6 ?_
  refine va_put (D := (dC, dI)) (ci := 3) (v := .ref tr) (ty := (.array .char)) (C := "MacroReckoner$Token") (T := TTo) (N := 6) hx hb hts inTo tyTo tyTo_ok nmTo hown hK hP hD hS 0 rfl rfl 2 (by decide) (hts _ wt1_59) (fun _ h9 => h9) rfl (by decide +kernel) rfl rfl (Nat.le_of_ble_eq_true rfl) dTo_read_9 (fun H locs hP hD hS => ?_)
  have hP : va_P (dC, dI) vwCl (wTo dA to cm rg (.ref tr) st0 en0 lg (wTa dA ta tr nn D a1 en [])) H := hP
  have hD : va_D A (wTo dA to cm rg (.ref tr) st0 en0 lg (wTa dA ta tr nn D a1 en [])) := hD
  refine lv_aload_n hx hb dTo_read_12 rfl (lv_at hl 0 rfl) ?_
  refine lv_aload_n hx hb dTo_read_13 rfl (lv_at hl 1 rfl) ?_
  refine va_getN (D := (dC, dI)) (ci := 2) (v := .int (iI a1)) (C := "MacroReckoner$Tape") (T := TTa) (N := 3) hx hb hts inTa hown hK hP 1 rfl rfl 1 (by decide) (va_Nw.use rfl (hX.1 ("MacroReckoner$Token", 38, "MacroReckoner$Tape", "at", "I", "MacroReckoner") (List.mem_of_getElem? (i := 1) rfl))) (fun _ h9 => h9) rfl dTo_read_14 ?_
  refine va_put (D := (dC, dI)) (ci := 3) (v := .int (iI a1)) (ty := .int) (C := "MacroReckoner$Token") (T := TTo) (N := 6) hx hb hts inTo tyTo tyTo_ok nmTo hown hK hP hD hS 0 rfl rfl 3 (by decide) (hts _ wt1_61) (fun _ h9 => h9) rfl (by decide +kernel) rfl rfl (Nat.le_of_ble_eq_true rfl) dTo_read_17 (fun H locs hP hD hS => ?_)
  have hP : va_P (dC, dI) vwCl (wTo dA to cm rg (.ref tr) a1 en0 lg (wTa dA ta tr nn D a1 en [])) H := hP
  have hD : va_D A (wTo dA to cm rg (.ref tr) a1 en0 lg (wTa dA ta tr nn D a1 en [])) := hD
  refine lv_aload_n hx hb dTo_read_20 rfl (lv_at hl 0 rfl) ?_
  refine lv_aload_n hx hb dTo_read_21 rfl (lv_at hl 1 rfl) ?_
  refine va_getN (D := (dC, dI)) (ci := 2) (v := .int (iI en)) (C := "MacroReckoner$Tape") (T := TTa) (N := 3) hx hb hts inTa hown hK hP 1 rfl rfl 2 (by decide) (va_Nw.use rfl (hX.1 ("MacroReckoner$Token", 41, "MacroReckoner$Tape", "end", "I", "MacroReckoner") (List.mem_of_getElem? (i := 2) rfl))) (fun _ h9 => h9) rfl dTo_read_22 ?_
  refine va_put (D := (dC, dI)) (ci := 3) (v := .int (iI en)) (ty := .int) (C := "MacroReckoner$Token") (T := TTo) (N := 6) hx hb hts inTo tyTo tyTo_ok nmTo hown hK hP hD hS 0 rfl rfl 4 (by decide) (hts _ wt1_63) (fun _ h9 => h9) rfl (by decide +kernel) rfl rfl (Nat.le_of_ble_eq_true rfl) dTo_read_25 (fun H locs hP hD hS => ?_)
  have hP : va_P (dC, dI) vwCl (wTo dA to cm rg (.ref tr) a1 en lg (wTa dA ta tr nn D a1 en [])) H := hP
  have hD : va_D A (wTo dA to cm rg (.ref tr) a1 en lg (wTa dA ta tr nn D a1 en [])) := hD
  refine lv_aload_n hx hb dTo_read_28 rfl (lv_at hl 0 rfl) ?_
  refine va_get (D := (dC, dI)) (ci := 3) (v := .int (iI a1)) (C := "MacroReckoner$Token") (T := TTo) (N := 6) hx hb hts inTo hown hK hP 0 rfl rfl 3 (by decide) (hts _ wt1_61) (fun _ h9 => h9) rfl dTo_read_29 ?_
  refine lv_aload_n hx hb dTo_read_32 rfl (lv_at hl 0 rfl) ?_
  refine va_get (D := (dC, dI)) (ci := 3) (v := .int (iI en)) (C := "MacroReckoner$Token") (T := TTo) (N := 6) hx hb hts inTo hown hK hP 0 rfl rfl 4 (by decide) (hts _ wt1_63) (fun _ h9 => h9) rfl dTo_read_33 ?_
  refine iv_icmp_lt (tgt := 41) hx hb dTo_read_36 (by decide) ⟨by omega, by omega⟩ ⟨by omega, by omega⟩ (fun hc36 => ?_) (fun hc36 => ?_)
  · have hse : a1 < en := hc36
    have hT1 := TP_sk hTk hq1
    have hda := ht4 a1 (by have := hq1.1; omega) hc36
    refine lv_aload_n hx hb dTo_read_41 rfl (lv_at hl 0 rfl) ?_
    refine lv_aload_n hx hb dTo_read_42 rfl (lv_at hl 0 rfl) ?_
    refine va_get (D := (dC, dI)) (ci := 3) (v := .ref tr) (C := "MacroReckoner$Token") (T := TTo) (N := 6) hx hb hts inTo hown hK hP 0 rfl rfl 2 (by decide) (hts _ wt1_59) (fun _ h9 => h9) rfl dTo_read_43 ?_
    refine lv_aload_n hx hb dTo_read_46 rfl (lv_at hl 0 rfl) ?_
    refine va_get (D := (dC, dI)) (ci := 3) (v := .int (iI a1)) (C := "MacroReckoner$Token") (T := TTo) (N := 6) hx hb hts inTo hown hK hP 0 rfl rfl 3 (by decide) (hts _ wt1_61) (fun _ h9 => h9) rfl dTo_read_47 ?_
    refine iv_cald hx hb hK hP 2 1 rfl rfl (by omega) dTo_read_50 (by omega) (by omega) ?_
    refine va_put (D := (dC, dI)) (ci := 3) (v := .int (iI (D a1))) (ty := .char) (C := "MacroReckoner$Token") (T := TTo) (N := 6) hx hb hts inTo tyTo tyTo_ok nmTo hown hK hP hD hS 0 rfl rfl 0 (by decide) (hts _ wt1_55) (fun _ h9 => h9) rfl (by decide +kernel) (nrw_char (by omega) (by omega)) (fit_char (by omega) (by omega)) (Nat.le_of_ble_eq_true rfl) dTo_read_51 (fun H locs hP hD hS => ?_)
    have hP : va_P (dC, dI) vwCl (wTo dA to (D a1) rg (.ref tr) a1 en lg (wTa dA ta tr nn D a1 en [])) H := hP
    have hD : va_D A (wTo dA to (D a1) rg (.ref tr) a1 en lg (wTa dA ta tr nn D a1 en [])) := hD
    refine lv_aload_n hx hb dTo_read_54 rfl (lv_at hl 0 rfl) ?_
    refine lv_iconst (v := iI 1) hx hb dTo_read_55 rfl ?_
    refine va_put (D := (dC, dI)) (ci := 3) (v := .int (iI 1)) (ty := .int) (C := "MacroReckoner$Token") (T := TTo) (N := 6) hx hb hts inTo tyTo tyTo_ok nmTo hown hK hP hD hS 0 rfl rfl 5 (by decide) (hts _ wt1_64) (fun _ h9 => h9) rfl (by decide +kernel) rfl rfl (Nat.le_of_ble_eq_true rfl) dTo_read_56 (fun H locs hP hD hS => ?_)
    have hP : va_P (dC, dI) vwCl (wTo dA to (D a1) rg (.ref tr) a1 en 1 (wTa dA ta tr nn D a1 en [])) H := hP
    have hD : va_D A (wTo dA to (D a1) rg (.ref tr) a1 en 1 (wTa dA ta tr nn D a1 en [])) := hD
    refine lv_aload_n hx hb dTo_read_59 rfl (lv_at hl 0 rfl) ?_
    refine cv_i (va_runV (C := "MacroReckoner$Token") (As := []) (rest := []) ⟨hx, hb, hml, hown, hts⟩ (cTo_measure l dC dI dA to ((D a1)) rg a1 en 1 tr nn D (by exact hT1) (by exact hse) (by omega) (by rfl) H.size) (cwV 0 hts (gdV wt2_118 wt2_120 ws1_5 wt1_3 wt2_121) rfl rfl rfl ⟨rfl, by decide, by decide, by decide +kernel⟩ ⟨by decide, by decide⟩) (preV (q := ("MacroReckoner$Token", TTo, 6)) hK hP hD hS hA XN_ok trivial [0, 2] rfl rfl 0 rfl rfl) rfl rfl hl.1 rfl (lv_room (Nat.le_of_ble_eq_true rfl)) dTo_read_60 ⟨Nat.zero_le _, Nat.zero_le _⟩) hP hD hS hA [0, 2] [1] rfl (fun v_ => wTo dA to v_.2.2 v_.2.1 ((.ref tr)) a1 en v_.1 (wTa dA ta tr nn D a1 en [])) (fun _ => rfl) ((ta, .inr (2, [.ref tr, .int (iI a1), .int (iI en)])) :: []) rfl (fun _ => rfl) [to, ta, tr] rfl (fun _ => rfl) (fun _ => rfl) (fun u9 u_ H locs hq60 hP hD hS => ?_)
    obtain ⟨lg9, rg9, cm9⟩ := u_
    have hP : va_P (dC, dI) vwCl (wTo dA to cm9 rg9 ((.ref tr)) a1 en lg9 (wTa dA ta tr nn D a1 en [])) H := hP
    have hD : va_D A (wTo dA to cm9 rg9 ((.ref tr)) a1 en lg9 (wTa dA ta tr nn D a1 en [])) := hD
    have hq60 : msR D a1 en ((D a1)) rg cm9 rg9 lg9 u9 := hq60
    have hmb := ms_b hq60 (by omega)
    refine lv_istore_n (lv' := [(3, .int (iI u9)), (0, .ref to), (1, .ref ta), (2, .int (iI it))]) hx hb dTo_read_63 rfl hl (by decide) rfl (fun ls hl => ?_)
    refine lv_iload_n hx hb dTo_read_64 rfl (lv_at hl 0 rfl) ?_
    refine iv_if_eq (tgt := 86) hx hb dTo_read_65 (by decide) ⟨by omega, by omega⟩ (fun hc65 => ?_) (fun hc65 => ?_)
    · refine lv_iload_n hx hb dTo_read_86 rfl (lv_at hl 3 rfl) ?_
      refine iv_if_ne (tgt := 94) hx hb dTo_read_87 (by decide) ⟨by omega, by omega⟩ (fun hc87 => ?_) (fun hc87 => ?_)
      · refine lv_iconst (v := iI 1) hx hb dTo_read_94 rfl ?_
        refine lv_goto (tgt := 99) hx hb dTo_read_95 (by decide) ?_
        exact rt_z hx hb hr hlocks hK hS dTo_read_99 (nrw_bool (by omega)) (a1, cm9, rg9, lg9, u9, cm9) hP hD (show skR D at_ en a1 ∧ ((a1 = en ∧ 1 = 0 ∧ cm9 = cm ∧ rg9 = rg ∧ lg9 = lg) ∨ (a1 < en ∧ msR D a1 en (D a1) rg cm9 rg9 lg9 u9 ∧ ((u9 = 1 ∧ it = 1 ∧ cm9 ≠ 48 ∧ cm9 = 0) ∨ (¬ (u9 = 1 ∧ it = 1 ∧ cm9 ≠ 48) ∧ cm9 = cm9)) ∧ ((1 = 1 ∧ (it = 1 ∨ u9 = 0)) ∨ (1 = 0 ∧ it = 0 ∧ u9 = 1)))) from by exact ⟨hq1, Or.inr ⟨hse, hq60, by omega, by omega⟩⟩)
      · refine lv_iload_n hx hb dTo_read_90 rfl (lv_at hl 0 rfl) ?_
        refine iv_if_ne (tgt := 98) hx hb dTo_read_91 (by decide) ⟨by omega, by omega⟩ (fun hc91 => ?_) (fun hc91 => ?_)
        · refine lv_iconst (v := iI 0) hx hb dTo_read_98 rfl ?_
          exact rt_z hx hb hr hlocks hK hS dTo_read_99 (nrw_bool (by omega)) (a1, cm9, rg9, lg9, u9, cm9) hP hD (show skR D at_ en a1 ∧ ((a1 = en ∧ 0 = 0 ∧ cm9 = cm ∧ rg9 = rg ∧ lg9 = lg) ∨ (a1 < en ∧ msR D a1 en (D a1) rg cm9 rg9 lg9 u9 ∧ ((u9 = 1 ∧ it = 1 ∧ cm9 ≠ 48 ∧ cm9 = 0) ∨ (¬ (u9 = 1 ∧ it = 1 ∧ cm9 ≠ 48) ∧ cm9 = cm9)) ∧ ((0 = 1 ∧ (it = 1 ∨ u9 = 0)) ∨ (0 = 0 ∧ it = 0 ∧ u9 = 1)))) from by exact ⟨hq1, Or.inr ⟨hse, hq60, by omega, by omega⟩⟩)
        · refine lv_iconst (v := iI 1) hx hb dTo_read_94 rfl ?_
          refine lv_goto (tgt := 99) hx hb dTo_read_95 (by decide) ?_
          exact rt_z hx hb hr hlocks hK hS dTo_read_99 (nrw_bool (by omega)) (a1, cm9, rg9, lg9, u9, cm9) hP hD (show skR D at_ en a1 ∧ ((a1 = en ∧ 1 = 0 ∧ cm9 = cm ∧ rg9 = rg ∧ lg9 = lg) ∨ (a1 < en ∧ msR D a1 en (D a1) rg cm9 rg9 lg9 u9 ∧ ((u9 = 1 ∧ it = 1 ∧ cm9 ≠ 48 ∧ cm9 = 0) ∨ (¬ (u9 = 1 ∧ it = 1 ∧ cm9 ≠ 48) ∧ cm9 = cm9)) ∧ ((1 = 1 ∧ (it = 1 ∨ u9 = 0)) ∨ (1 = 0 ∧ it = 0 ∧ u9 = 1)))) from by exact ⟨hq1, Or.inr ⟨hse, hq60, by omega, by omega⟩⟩)
    · refine lv_iload_n hx hb dTo_read_68 rfl (lv_at hl 3 rfl) ?_
      refine iv_if_eq (tgt := 86) hx hb dTo_read_69 (by decide) ⟨by omega, by omega⟩ (fun hc69 => ?_) (fun hc69 => ?_)
      · refine lv_iload_n hx hb dTo_read_86 rfl (lv_at hl 3 rfl) ?_
        refine iv_if_ne (tgt := 94) hx hb dTo_read_87 (by decide) ⟨by omega, by omega⟩ (fun hc87 => ?_) (fun hc87 => ?_)
        · refine lv_iconst (v := iI 1) hx hb dTo_read_94 rfl ?_
          refine lv_goto (tgt := 99) hx hb dTo_read_95 (by decide) ?_
          exact rt_z hx hb hr hlocks hK hS dTo_read_99 (nrw_bool (by omega)) (a1, cm9, rg9, lg9, u9, cm9) hP hD (show skR D at_ en a1 ∧ ((a1 = en ∧ 1 = 0 ∧ cm9 = cm ∧ rg9 = rg ∧ lg9 = lg) ∨ (a1 < en ∧ msR D a1 en (D a1) rg cm9 rg9 lg9 u9 ∧ ((u9 = 1 ∧ it = 1 ∧ cm9 ≠ 48 ∧ cm9 = 0) ∨ (¬ (u9 = 1 ∧ it = 1 ∧ cm9 ≠ 48) ∧ cm9 = cm9)) ∧ ((1 = 1 ∧ (it = 1 ∨ u9 = 0)) ∨ (1 = 0 ∧ it = 0 ∧ u9 = 1)))) from by exact ⟨hq1, Or.inr ⟨hse, hq60, by omega, by omega⟩⟩)
        · refine lv_iload_n hx hb dTo_read_90 rfl (lv_at hl 0 rfl) ?_
          refine iv_if_ne (tgt := 98) hx hb dTo_read_91 (by decide) ⟨by omega, by omega⟩ (fun hc91 => ?_) (fun hc91 => ?_)
          · refine lv_iconst (v := iI 0) hx hb dTo_read_98 rfl ?_
            exact rt_z hx hb hr hlocks hK hS dTo_read_99 (nrw_bool (by omega)) (a1, cm9, rg9, lg9, u9, cm9) hP hD (show skR D at_ en a1 ∧ ((a1 = en ∧ 0 = 0 ∧ cm9 = cm ∧ rg9 = rg ∧ lg9 = lg) ∨ (a1 < en ∧ msR D a1 en (D a1) rg cm9 rg9 lg9 u9 ∧ ((u9 = 1 ∧ it = 1 ∧ cm9 ≠ 48 ∧ cm9 = 0) ∨ (¬ (u9 = 1 ∧ it = 1 ∧ cm9 ≠ 48) ∧ cm9 = cm9)) ∧ ((0 = 1 ∧ (it = 1 ∨ u9 = 0)) ∨ (0 = 0 ∧ it = 0 ∧ u9 = 1)))) from by exact ⟨hq1, Or.inr ⟨hse, hq60, by omega, by omega⟩⟩)
          · refine lv_iconst (v := iI 1) hx hb dTo_read_94 rfl ?_
            refine lv_goto (tgt := 99) hx hb dTo_read_95 (by decide) ?_
            exact rt_z hx hb hr hlocks hK hS dTo_read_99 (nrw_bool (by omega)) (a1, cm9, rg9, lg9, u9, cm9) hP hD (show skR D at_ en a1 ∧ ((a1 = en ∧ 1 = 0 ∧ cm9 = cm ∧ rg9 = rg ∧ lg9 = lg) ∨ (a1 < en ∧ msR D a1 en (D a1) rg cm9 rg9 lg9 u9 ∧ ((u9 = 1 ∧ it = 1 ∧ cm9 ≠ 48 ∧ cm9 = 0) ∨ (¬ (u9 = 1 ∧ it = 1 ∧ cm9 ≠ 48) ∧ cm9 = cm9)) ∧ ((1 = 1 ∧ (it = 1 ∨ u9 = 0)) ∨ (1 = 0 ∧ it = 0 ∧ u9 = 1)))) from by exact ⟨hq1, Or.inr ⟨hse, hq60, by omega, by omega⟩⟩)
      · refine lv_aload_n hx hb dTo_read_72 rfl (lv_at hl 1 rfl) ?_
        refine va_get (D := (dC, dI)) (ci := 3) (v := .int (iI cm9)) (C := "MacroReckoner$Token") (T := TTo) (N := 6) hx hb hts inTo hown hK hP 0 rfl rfl 0 (by decide) (hts _ wt1_55) (fun _ h9 => h9) rfl dTo_read_73 ?_
        refine lv_bipush (v := iI 48) hx hb dTo_read_76 (by decide) ?_
        refine iv_icmp_eq (tgt := 86) hx hb dTo_read_78 (by decide) ⟨by omega, by omega⟩ ⟨by decide, by decide⟩ (fun hc78 => ?_) (fun hc78 => ?_)
        · refine lv_iload_n hx hb dTo_read_86 rfl (lv_at hl 3 rfl) ?_
          refine iv_if_ne (tgt := 94) hx hb dTo_read_87 (by decide) ⟨by omega, by omega⟩ (fun hc87 => ?_) (fun hc87 => ?_)
          · refine lv_iconst (v := iI 1) hx hb dTo_read_94 rfl ?_
            refine lv_goto (tgt := 99) hx hb dTo_read_95 (by decide) ?_
            exact rt_z hx hb hr hlocks hK hS dTo_read_99 (nrw_bool (by omega)) (a1, cm9, rg9, lg9, u9, cm9) hP hD (show skR D at_ en a1 ∧ ((a1 = en ∧ 1 = 0 ∧ cm9 = cm ∧ rg9 = rg ∧ lg9 = lg) ∨ (a1 < en ∧ msR D a1 en (D a1) rg cm9 rg9 lg9 u9 ∧ ((u9 = 1 ∧ it = 1 ∧ cm9 ≠ 48 ∧ cm9 = 0) ∨ (¬ (u9 = 1 ∧ it = 1 ∧ cm9 ≠ 48) ∧ cm9 = cm9)) ∧ ((1 = 1 ∧ (it = 1 ∨ u9 = 0)) ∨ (1 = 0 ∧ it = 0 ∧ u9 = 1)))) from by exact ⟨hq1, Or.inr ⟨hse, hq60, by omega, by omega⟩⟩)
          · refine lv_iload_n hx hb dTo_read_90 rfl (lv_at hl 0 rfl) ?_
            refine iv_if_ne (tgt := 98) hx hb dTo_read_91 (by decide) ⟨by omega, by omega⟩ (fun hc91 => ?_) (fun hc91 => ?_)
            · refine lv_iconst (v := iI 0) hx hb dTo_read_98 rfl ?_
              exact rt_z hx hb hr hlocks hK hS dTo_read_99 (nrw_bool (by omega)) (a1, cm9, rg9, lg9, u9, cm9) hP hD (show skR D at_ en a1 ∧ ((a1 = en ∧ 0 = 0 ∧ cm9 = cm ∧ rg9 = rg ∧ lg9 = lg) ∨ (a1 < en ∧ msR D a1 en (D a1) rg cm9 rg9 lg9 u9 ∧ ((u9 = 1 ∧ it = 1 ∧ cm9 ≠ 48 ∧ cm9 = 0) ∨ (¬ (u9 = 1 ∧ it = 1 ∧ cm9 ≠ 48) ∧ cm9 = cm9)) ∧ ((0 = 1 ∧ (it = 1 ∨ u9 = 0)) ∨ (0 = 0 ∧ it = 0 ∧ u9 = 1)))) from by exact ⟨hq1, Or.inr ⟨hse, hq60, by omega, by omega⟩⟩)
            · refine lv_iconst (v := iI 1) hx hb dTo_read_94 rfl ?_
              refine lv_goto (tgt := 99) hx hb dTo_read_95 (by decide) ?_
              exact rt_z hx hb hr hlocks hK hS dTo_read_99 (nrw_bool (by omega)) (a1, cm9, rg9, lg9, u9, cm9) hP hD (show skR D at_ en a1 ∧ ((a1 = en ∧ 1 = 0 ∧ cm9 = cm ∧ rg9 = rg ∧ lg9 = lg) ∨ (a1 < en ∧ msR D a1 en (D a1) rg cm9 rg9 lg9 u9 ∧ ((u9 = 1 ∧ it = 1 ∧ cm9 ≠ 48 ∧ cm9 = 0) ∨ (¬ (u9 = 1 ∧ it = 1 ∧ cm9 ≠ 48) ∧ cm9 = cm9)) ∧ ((1 = 1 ∧ (it = 1 ∨ u9 = 0)) ∨ (1 = 0 ∧ it = 0 ∧ u9 = 1)))) from by exact ⟨hq1, Or.inr ⟨hse, hq60, by omega, by omega⟩⟩)
        · refine lv_aload_n hx hb dTo_read_81 rfl (lv_at hl 1 rfl) ?_
          refine lv_iconst (v := iI 0) hx hb dTo_read_82 rfl ?_
          refine va_put (D := (dC, dI)) (ci := 3) (v := .int (iI 0)) (ty := .char) (C := "MacroReckoner$Token") (T := TTo) (N := 6) hx hb hts inTo tyTo tyTo_ok nmTo hown hK hP hD hS 0 rfl rfl 0 (by decide) (hts _ wt1_55) (fun _ h9 => h9) rfl (by decide +kernel) (nrw_char (by omega) (by omega)) (fit_char (by omega) (by omega)) (Nat.le_of_ble_eq_true rfl) dTo_read_83 (fun H locs hP hD hS => ?_)
          have hP : va_P (dC, dI) vwCl (wTo dA to 0 rg9 ((.ref tr)) a1 en lg9 (wTa dA ta tr nn D a1 en [])) H := hP
          have hD : va_D A (wTo dA to 0 rg9 ((.ref tr)) a1 en lg9 (wTa dA ta tr nn D a1 en [])) := hD
          refine lv_iload_n hx hb dTo_read_86 rfl (lv_at hl 3 rfl) ?_
          refine iv_if_ne (tgt := 94) hx hb dTo_read_87 (by decide) ⟨by omega, by omega⟩ (fun hc87 => ?_) (fun hc87 => ?_)
          · refine lv_iconst (v := iI 1) hx hb dTo_read_94 rfl ?_
            refine lv_goto (tgt := 99) hx hb dTo_read_95 (by decide) ?_
            exact rt_z hx hb hr hlocks hK hS dTo_read_99 (nrw_bool (by omega)) (a1, cm9, rg9, lg9, u9, 0) hP hD (show skR D at_ en a1 ∧ ((a1 = en ∧ 1 = 0 ∧ 0 = cm ∧ rg9 = rg ∧ lg9 = lg) ∨ (a1 < en ∧ msR D a1 en (D a1) rg cm9 rg9 lg9 u9 ∧ ((u9 = 1 ∧ it = 1 ∧ cm9 ≠ 48 ∧ 0 = 0) ∨ (¬ (u9 = 1 ∧ it = 1 ∧ cm9 ≠ 48) ∧ 0 = cm9)) ∧ ((1 = 1 ∧ (it = 1 ∨ u9 = 0)) ∨ (1 = 0 ∧ it = 0 ∧ u9 = 1)))) from by exact ⟨hq1, Or.inr ⟨hse, hq60, by omega, by omega⟩⟩)
          · refine lv_iload_n hx hb dTo_read_90 rfl (lv_at hl 0 rfl) ?_
            refine iv_if_ne (tgt := 98) hx hb dTo_read_91 (by decide) ⟨by omega, by omega⟩ (fun hc91 => ?_) (fun hc91 => ?_)
            · refine lv_iconst (v := iI 0) hx hb dTo_read_98 rfl ?_
              exact rt_z hx hb hr hlocks hK hS dTo_read_99 (nrw_bool (by omega)) (a1, cm9, rg9, lg9, u9, 0) hP hD (show skR D at_ en a1 ∧ ((a1 = en ∧ 0 = 0 ∧ 0 = cm ∧ rg9 = rg ∧ lg9 = lg) ∨ (a1 < en ∧ msR D a1 en (D a1) rg cm9 rg9 lg9 u9 ∧ ((u9 = 1 ∧ it = 1 ∧ cm9 ≠ 48 ∧ 0 = 0) ∨ (¬ (u9 = 1 ∧ it = 1 ∧ cm9 ≠ 48) ∧ 0 = cm9)) ∧ ((0 = 1 ∧ (it = 1 ∨ u9 = 0)) ∨ (0 = 0 ∧ it = 0 ∧ u9 = 1)))) from by exact ⟨hq1, Or.inr ⟨hse, hq60, by omega, by omega⟩⟩)
            · refine lv_iconst (v := iI 1) hx hb dTo_read_94 rfl ?_
              refine lv_goto (tgt := 99) hx hb dTo_read_95 (by decide) ?_
              exact rt_z hx hb hr hlocks hK hS dTo_read_99 (nrw_bool (by omega)) (a1, cm9, rg9, lg9, u9, 0) hP hD (show skR D at_ en a1 ∧ ((a1 = en ∧ 1 = 0 ∧ 0 = cm ∧ rg9 = rg ∧ lg9 = lg) ∨ (a1 < en ∧ msR D a1 en (D a1) rg cm9 rg9 lg9 u9 ∧ ((u9 = 1 ∧ it = 1 ∧ cm9 ≠ 48 ∧ 0 = 0) ∨ (¬ (u9 = 1 ∧ it = 1 ∧ cm9 ≠ 48) ∧ 0 = cm9)) ∧ ((1 = 1 ∧ (it = 1 ∨ u9 = 0)) ∨ (1 = 0 ∧ it = 0 ∧ u9 = 1)))) from by exact ⟨hq1, Or.inr ⟨hse, hq60, by omega, by omega⟩⟩)
  · refine lv_iconst (v := iI 0) hx hb dTo_read_39 rfl ?_
    exact rt_z hx hb hr hlocks hK hS dTo_read_40 (nrw_bool (by omega)) (a1, 0, rg, lg, 0, cm) hP hD (show skR D at_ en a1 ∧ ((a1 = en ∧ 0 = 0 ∧ cm = cm ∧ rg = rg ∧ lg = lg) ∨ (a1 < en ∧ msR D a1 en (D a1) rg 0 rg lg 0 ∧ ((0 = 1 ∧ it = 1 ∧ 0 ≠ 48 ∧ cm = 0) ∨ (¬ (0 = 1 ∧ it = 1 ∧ 0 ≠ 48) ∧ cm = 0)) ∧ ((0 = 1 ∧ (it = 1 ∨ 0 = 0)) ∨ (0 = 0 ∧ it = 0 ∧ 0 = 1)))) from by exact ⟨hq1, Or.inl ⟨by omega, rfl, rfl, rfl, rfl⟩⟩)
