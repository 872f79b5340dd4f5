theorem dVa_become_0 : decode prog_6_method_2_code 0 = .ok (.aload_n 0, 1) := by decide +kernel
theorem dVa_become_1 : decode prog_6_method_2_code 1 = .ok (.aload_n 1, 1) := by decide +kernel
theorem dVa_become_2 : decode prog_6_method_2_code 2 = .ok (.getfield 9, 3) := by decide +kernel
theorem dVa_become_5 : decode prog_6_method_2_code 5 = .ok (.putfield 9, 3) := by decide +kernel
theorem dVa_become_8 : decode prog_6_method_2_code 8 = .ok (.aload_n 0, 1) := by decide +kernel
theorem dVa_become_9 : decode prog_6_method_2_code 9 = .ok (.getfield 18, 3) := by decide +kernel
theorem dVa_become_12 : decode prog_6_method_2_code 12 = .ok (.aload_n 1, 1) := by decide +kernel
theorem dVa_become_13 : decode prog_6_method_2_code 13 = .ok (.getfield 18, 3) := by decide +kernel
theorem dVa_become_16 : decode prog_6_method_2_code 16 = .ok (.invokevirtual 36, 3) := by decide +kernel
theorem dVa_become_19 : decode prog_6_method_2_code 19 = .ok (.aload_n 0, 1) := by decide +kernel
theorem dVa_become_20 : decode prog_6_method_2_code 20 = .ok (.aload_n 1, 1) := by decide +kernel
theorem dVa_become_21 : decode prog_6_method_2_code 21 = .ok (.getfield 22, 3) := by decide +kernel
theorem dVa_become_24 : decode prog_6_method_2_code 24 = .ok (.putfield 22, 3) := by decide +kernel
theorem dVa_become_27 : decode prog_6_method_2_code 27 = .ok (.aload_n 0, 1) := by decide +kernel
theorem dVa_become_28 : decode prog_6_method_2_code 28 = .ok (.aload_n 1, 1) := by decide +kernel
theorem dVa_become_29 : decode prog_6_method_2_code 29 = .ok (.getfield 25, 3) := by decide +kernel
theorem dVa_become_32 : decode prog_6_method_2_code 32 = .ok (.putfield 25, 3) := by decide +kernel
theorem dVa_become_35 : decode prog_6_method_2_code 35 = .ok (.aload_n 1, 1) := by decide +kernel
theorem dVa_become_36 : decode prog_6_method_2_code 36 = .ok (.getfield 29, 3) := by decide +kernel
theorem dVa_become_39 : decode prog_6_method_2_code 39 = .ok (.iconst 0, 1) := by decide +kernel
theorem dVa_become_40 : decode prog_6_method_2_code 40 = .ok (.aload_n 0, 1) := by decide +kernel
theorem dVa_become_41 : decode prog_6_method_2_code 41 = .ok (.getfield 29, 3) := by decide +kernel
theorem dVa_become_44 : decode prog_6_method_2_code 44 = .ok (.iconst 0, 1) := by decide +kernel
theorem dVa_become_45 : decode prog_6_method_2_code 45 = .ok (.aload_n 1, 1) := by decide +kernel
theorem dVa_become_46 : decode prog_6_method_2_code 46 = .ok (.getfield 33, 3) := by decide +kernel
theorem dVa_become_49 : decode prog_6_method_2_code 49 = .ok (.invokestatic 40, 3) := by decide +kernel
theorem dVa_become_52 : decode prog_6_method_2_code 52 = .ok (.aload_n 0, 1) := by decide +kernel
theorem dVa_become_53 : decode prog_6_method_2_code 53 = .ok (.aload_n 1, 1) := by decide +kernel
theorem dVa_become_54 : decode prog_6_method_2_code 54 = .ok (.getfield 33, 3) := by decide +kernel
theorem dVa_become_57 : decode prog_6_method_2_code 57 = .ok (.putfield 33, 3) := by decide +kernel
theorem dVa_become_60 : decode prog_6_method_2_code 60 = .ok (.return_, 1) := by decide +kernel
abbrev qVa_become (dC : Nat → ClassId) (dI : Nat → Nat → Nat) (dA : Nat → ClassId) (x : Nat) (w : Nat) (cr : Nat) (t : Int) (ng : Int) (sc : Int) (C : Int → Int) (ln : Int) (g : Nat) (F : Int → Int) (u : Int) (x2 : Nat) (w2 : Nat) (cr2 : Nat) (t2 : Int) (ng2 : Int) (sc2 : Int) (C2 : Int → Int) (ln2 : Int) (g2 : Nat) (F2 : Int → Int) (u2 : Int) (N2 : Int) (A : Nat → Prop) : Array Value → State → Outcome → State → Prop := QV (dC, dI) vwCl (tyA dA) (fun (v_ : (Int → Int) × (Int → Int)) => WR v_.1 u2 N2 ∧ ∀ j, 0 ≤ j → j < ln2 → v_.2 j = C2 j) (fun (v_ : (Int → Int) × (Int → Int)) => wVa dA x w cr t2 ng2 sc2 v_.2 ln2 (wWh dA w g v_.1 u2 (wVa dA x2 w2 cr2 t2 ng2 sc2 C2 ln2 (wWh dA w2 g2 F2 u2 [])))) A
abbrev rmVa_become : Room := { frames := 2, cells := 0, slots := 0, locals := 81 }
set_option maxRecDepth 100000 in
set_option maxHeartbeats 1000000 in
theorem cVa_become (l : Launch) (dC : Nat → ClassId) (dI : Nat → Nat → Nat) (dA : Nat → ClassId) (x : Nat) (w : Nat) (cr : Nat) (t : Int) (ng : Int) (sc : Int) (C : Int → Int) (ln : Int) (g : Nat) (F : Int → Int) (u : Int) (x2 : Nat) (w2 : Nat) (cr2 : Nat) (t2 : Int) (ng2 : Int) (sc2 : Int) (C2 : Int → Int) (ln2 : Int) (g2 : Nat) (F2 : Int → Int) (u2 : Int) (N2 : Int) (hV2 : VV t2 ng2 sc2 ln2 C2 N2) (hW2 : WR F2 u2 N2) (sz : Nat) : Met l yVa_become wsVa_become rmVa_become (PC (dC, dI) vwCl (tyA dA) XN [.ref x, .ref x2] (wVa dA x w cr t ng sc C ln (wWh dA w g F u (wVa dA x2 w2 cr2 t2 ng2 sc2 C2 ln2 (wWh dA w2 g2 F2 u2 [])))) sz) (qVa_become dC dI dA x w cr t ng sc C ln g F u x2 w2 cr2 t2 ng2 sc2 C2 ln2 g2 F2 u2 N2 (va_A (wVa dA x w cr t ng sc C ln (wWh dA w g F u (wVa dA x2 w2 cr2 t2 ng2 sc2 C2 ln2 (wWh dA w2 g2 F2 u2 [])))) sz)) 0 0 (va_A (wVa dA x w cr t ng sc C ln (wWh dA w g F u (wVa dA x2 w2 cr2 t2 ng2 sc2 C2 ln2 (wWh dA w2 g2 F2 u2 [])))) sz) := by
  refine met_of (cc := prog_6_method_2_code) (maxL := 2) (ret := none) (Qc := qVa_become dC dI dA x w cr t ng sc C ln g F u x2 w2 cr2 t2 ng2 sc2 C2 ln2 g2 F2 u2 N2) XN_ok (by decide) rfl (Nat.le_of_ble_eq_true rfl) ?_
  intro p e s m below meth c ls A hx hb hr hml hown hts hlocks hnm hK hP hD hA hX hS hl
  have hl : lv_has ls 2 [(0, .ref x), (1, .ref x2)] := hl
  have hown : s.vm.findClass "MacroReckoner$Value" = some m.cls := hown
  obtain ⟨H, hH⟩ : ∃ H : Heap, H = s.heap := ⟨_, rfl⟩
  obtain ⟨locs, hlo⟩ : ∃ L : List Loc, L = [] := ⟨_, rfl⟩
  have hP : va_P (dC, dI) vwCl (wVa dA x w cr t ng sc C ln (wWh dA w g F u (wVa dA x2 w2 cr2 t2 ng2 sc2 C2 ln2 (wWh dA w2 g2 F2 u2 [])))) H := hH ▸ hP
  have hS : va_S A s.heap H locs := by rw [hH, hlo]; exact hS
  suffices hgo : W p l e rmVa_become s m [.ref x, .ref x2].toArray below meth c H locs 0 0 (MQ below (qVa_become dC dI dA x w cr t ng sc C ln g F u x2 w2 cr2 t2 ng2 sc2 C2 ln2 g2 F2 u2 N2 A) [.ref x, .ref x2].toArray s 0 0 A) (F0 m 0 ls []) by rw [hH, hlo] at hgo; exact hgo
  clear hH hlo
  obtain ⟨ht2, hng2, hsc2, hln2, hch2, -⟩ := hV2
  refine lv_aload_n hx hb dVa_become_0 rfl (lv_at hl 0 rfl) ?_
  refine lv_aload_n hx hb dVa_become_1 rfl (lv_at hl 1 rfl) ?_
  refine va_get (D := (dC, dI)) (ci := 4) (v := .int (iI t2)) (C := "MacroReckoner$Value") (T := TVa) (N := 6) hx hb hts inVa hown hK hP 4 rfl rfl 0 (by decide) (hts _ wt1_100) (fun _ h9 => h9) rfl dVa_become_2 ?_
  refine va_put (D := (dC, dI)) (ci := 4) (v := .int (iI t2)) (ty := .boolean) (C := "MacroReckoner$Value") (T := TVa) (N := 6) hx hb hts inVa tyVa tyVa_ok nmVa hown hK hP hD hS 0 rfl rfl 0 (by decide) (hts _ wt1_100) (fun _ h9 => h9) rfl (by decide +kernel) (nrw_bool (by omega)) (fit_bool (by omega)) (Nat.le_of_ble_eq_true rfl) dVa_become_5 (fun H locs hP hD hS => ?_)
  have hP : va_P (dC, dI) vwCl (wVa dA x w cr t2 ng sc C ln (wWh dA w g F u (wVa dA x2 w2 cr2 t2 ng2 sc2 C2 ln2 (wWh dA w2 g2 F2 u2 [])))) H := hP
  have hD : va_D A (wVa dA x w cr t2 ng sc C ln (wWh dA w g F u (wVa dA x2 w2 cr2 t2 ng2 sc2 C2 ln2 (wWh dA w2 g2 F2 u2 [])))) := hD
  refine lv_aload_n hx hb dVa_become_8 rfl (lv_at hl 0 rfl) ?_
  refine va_get (D := (dC, dI)) (ci := 4) (v := .ref w) (C := "MacroReckoner$Value") (T := TVa) (N := 6) hx hb hts inVa hown hK hP 0 rfl rfl 1 (by decide) (hts _ wt1_103) (fun _ h9 => h9) rfl dVa_become_9 ?_
  refine lv_aload_n hx hb dVa_become_12 rfl (lv_at hl 1 rfl) ?_
  refine va_get (D := (dC, dI)) (ci := 4) (v := .ref w2) (C := "MacroReckoner$Value") (T := TVa) (N := 6) hx hb hts inVa hown hK hP 4 rfl rfl 1 (by decide) (hts _ wt1_103) (fun _ h9 => h9) rfl dVa_become_13 ?_
  refine cv_v (va_runV (C := "MacroReckoner$Whole") (As := [.ref w2]) (rest := []) ⟨hx, hb, hml, hown, hts⟩ (cWh_become l dC dI dA w g F u w2 g2 F2 u2 N2 (by exact hW2) H.size) (cwV 1 hts (gdV wt3_44 wt3_45 wt3_46 wt1_5 wt3_47) rfl rfl rfl ⟨rfl, by decide, by decide, by decide +kernel⟩ ⟨by decide, by decide⟩) (preV (q := ("MacroReckoner$Whole", TWh, 2)) hK hP hD hS hA XN_ok trivial [2, 3, 6, 7] rfl rfl 0 rfl rfl) rfl rfl hl.1 rfl (lv_room (Nat.le_of_ble_eq_true rfl)) dVa_become_16 ⟨Nat.zero_le _, Nat.zero_le _⟩) hP hD hS hA [2, 3, 6, 7] [0, 1, 4, 5] rfl (fun v_ => wVa dA x w cr t2 ng sc C ln (wWh dA w g v_ u2 (wVa dA x2 w2 cr2 t2 ng2 sc2 C2 ln2 (wWh dA w2 g2 F2 u2 [])))) (fun _ => rfl) (wVa dA x w cr t2 ng sc C ln (wVa dA x2 w2 cr2 t2 ng2 sc2 C2 ln2 [])) rfl (fun _ => rfl) [x, cr, w, g, x2, cr2, w2, g2] rfl (fun _ => rfl) (fun _ => rfl) (fun u_ H locs hq16 hP hD hS => ?_)
  obtain ⟨F9, rfl⟩ : ∃ z, z = u_ := ⟨_, rfl⟩
  have hP : va_P (dC, dI) vwCl (wVa dA x w cr t2 ng sc C ln (wWh dA w g F9 u2 (wVa dA x2 w2 cr2 t2 ng2 sc2 C2 ln2 (wWh dA w2 g2 F2 u2 [])))) H := hP
  have hD : va_D A (wVa dA x w cr t2 ng sc C ln (wWh dA w g F9 u2 (wVa dA x2 w2 cr2 t2 ng2 sc2 C2 ln2 (wWh dA w2 g2 F2 u2 [])))) := hD
  have hq16 : WR F9 u2 N2 := hq16
  refine lv_aload_n hx hb dVa_become_19 rfl (lv_at hl 0 rfl) ?_
  refine lv_aload_n hx hb dVa_become_20 rfl (lv_at hl 1 rfl) ?_
  refine va_get (D := (dC, dI)) (ci := 4) (v := .int (iI ng2)) (C := "MacroReckoner$Value") (T := TVa) (N := 6) hx hb hts inVa hown hK hP 4 rfl rfl 2 (by decide) (hts _ wt1_107) (fun _ h9 => h9) rfl dVa_become_21 ?_
  refine va_put (D := (dC, dI)) (ci := 4) (v := .int (iI ng2)) (ty := .boolean) (C := "MacroReckoner$Value") (T := TVa) (N := 6) hx hb hts inVa tyVa tyVa_ok nmVa hown hK hP hD hS 0 rfl rfl 2 (by decide) (hts _ wt1_107) (fun _ h9 => h9) rfl (by decide +kernel) (nrw_bool (by omega)) (fit_bool (by omega)) (Nat.le_of_ble_eq_true rfl) dVa_become_24 (fun H locs hP hD hS => ?_)
  have hP : va_P (dC, dI) vwCl (wVa dA x w cr t2 ng2 sc C ln (wWh dA w g F9 u2 (wVa dA x2 w2 cr2 t2 ng2 sc2 C2 ln2 (wWh dA w2 g2 F2 u2 [])))) H := hP
  have hD : va_D A (wVa dA x w cr t2 ng2 sc C ln (wWh dA w g F9 u2 (wVa dA x2 w2 cr2 t2 ng2 sc2 C2 ln2 (wWh dA w2 g2 F2 u2 [])))) := hD
  refine lv_aload_n hx hb dVa_become_27 rfl (lv_at hl 0 rfl) ?_
  refine lv_aload_n hx hb dVa_become_28 rfl (lv_at hl 1 rfl) ?_
  refine va_get (D := (dC, dI)) (ci := 4) (v := .int (iI sc2)) (C := "MacroReckoner$Value") (T := TVa) (N := 6) hx hb hts inVa hown hK hP 4 rfl rfl 3 (by decide) (hts _ wt1_111) (fun _ h9 => h9) rfl dVa_become_29 ?_
  refine va_put (D := (dC, dI)) (ci := 4) (v := .int (iI sc2)) (ty := .int) (C := "MacroReckoner$Value") (T := TVa) (N := 6) hx hb hts inVa tyVa tyVa_ok nmVa hown hK hP hD hS 0 rfl rfl 3 (by decide) (hts _ wt1_111) (fun _ h9 => h9) rfl (by decide +kernel) rfl rfl (Nat.le_of_ble_eq_true rfl) dVa_become_32 (fun H locs hP hD hS => ?_)
  have hP : va_P (dC, dI) vwCl (wVa dA x w cr t2 ng2 sc2 C ln (wWh dA w g F9 u2 (wVa dA x2 w2 cr2 t2 ng2 sc2 C2 ln2 (wWh dA w2 g2 F2 u2 [])))) H := hP
  have hD : va_D A (wVa dA x w cr t2 ng2 sc2 C ln (wWh dA w g F9 u2 (wVa dA x2 w2 cr2 t2 ng2 sc2 C2 ln2 (wWh dA w2 g2 F2 u2 [])))) := hD
  refine lv_aload_n hx hb dVa_become_35 rfl (lv_at hl 1 rfl) ?_
  refine va_get (D := (dC, dI)) (ci := 4) (v := .ref cr2) (C := "MacroReckoner$Value") (T := TVa) (N := 6) hx hb hts inVa hown hK hP 4 rfl rfl 4 (by decide) (hts _ wt1_115) (fun _ h9 => h9) rfl dVa_become_36 ?_
  refine lv_iconst (v := iI 0) hx hb dVa_become_39 rfl ?_
  refine lv_aload_n hx hb dVa_become_40 rfl (lv_at hl 0 rfl) ?_
  refine va_get (D := (dC, dI)) (ci := 4) (v := .ref cr) (C := "MacroReckoner$Value") (T := TVa) (N := 6) hx hb hts inVa hown hK hP 0 rfl rfl 4 (by decide) (hts _ wt1_115) (fun _ h9 => h9) rfl dVa_become_41 ?_
  refine lv_iconst (v := iI 0) hx hb dVa_become_44 rfl ?_
  refine lv_aload_n hx hb dVa_become_45 rfl (lv_at hl 1 rfl) ?_
  refine va_get (D := (dC, dI)) (ci := 4) (v := .int (iI ln2)) (C := "MacroReckoner$Value") (T := TVa) (N := 6) hx hb hts inVa hown hK hP 4 rfl rfl 5 (by decide) (hts _ wt1_118) (fun _ h9 => h9) rfl dVa_become_46 ?_
  refine iv_copy hx hb (hml.trans hl.1.symm) hown (hts _ wt3_49) (hts _ wt1_217) (hts _ wt1_216) (hts _ wt1_9) hK hP hD hS 5 1 1 1 rfl rfl rfl rfl rfl (by decide) (Nat.le_of_ble_eq_true rfl) (by decide) (by decide) dVa_become_49 (by omega) (by omega) (by omega) (by omega) (by omega) (by exact fun i h1 h2 => by have := hch2 (0 + i) (by omega) (by omega); exact fit_char (by omega) (by omega)) (fun H locs hP hD hS => ?_)
  have hP : va_P (dC, dI) vwCl (wVa dA x w cr t2 ng2 sc2 (cpI C2 C 0 0 ln2) ln (wWh dA w g F9 u2 (wVa dA x2 w2 cr2 t2 ng2 sc2 C2 ln2 (wWh dA w2 g2 F2 u2 [])))) H := hP
  have hD : va_D A (wVa dA x w cr t2 ng2 sc2 (cpI C2 C 0 0 ln2) ln (wWh dA w g F9 u2 (wVa dA x2 w2 cr2 t2 ng2 sc2 C2 ln2 (wWh dA w2 g2 F2 u2 [])))) := hD
  refine lv_aload_n hx hb dVa_become_52 rfl (lv_at hl 0 rfl) ?_
  refine lv_aload_n hx hb dVa_become_53 rfl (lv_at hl 1 rfl) ?_
  refine va_get (D := (dC, dI)) (ci := 4) (v := .int (iI ln2)) (C := "MacroReckoner$Value") (T := TVa) (N := 6) hx hb hts inVa hown hK hP 4 rfl rfl 5 (by decide) (hts _ wt1_118) (fun _ h9 => h9) rfl dVa_become_54 ?_
  refine va_put (D := (dC, dI)) (ci := 4) (v := .int (iI ln2)) (ty := .int) (C := "MacroReckoner$Value") (T := TVa) (N := 6) hx hb hts inVa tyVa tyVa_ok nmVa hown hK hP hD hS 0 rfl rfl 5 (by decide) (hts _ wt1_118) (fun _ h9 => h9) rfl (by decide +kernel) rfl rfl (Nat.le_of_ble_eq_true rfl) dVa_become_57 (fun H locs hP hD hS => ?_)
  have hP : va_P (dC, dI) vwCl (wVa dA x w cr t2 ng2 sc2 (cpI C2 C 0 0 ln2) ln2 (wWh dA w g F9 u2 (wVa dA x2 w2 cr2 t2 ng2 sc2 C2 ln2 (wWh dA w2 g2 F2 u2 [])))) H := hP
  have hD : va_D A (wVa dA x w cr t2 ng2 sc2 (cpI C2 C 0 0 ln2) ln2 (wWh dA w g F9 u2 (wVa dA x2 w2 cr2 t2 ng2 sc2 C2 ln2 (wWh dA w2 g2 F2 u2 [])))) := hD
  exact rt_v hx hb hr hlocks hK hS dVa_become_60 (F9, cpI C2 C 0 0 ln2) hP hD (show WR F9 u2 N2 ∧ ∀ j, 0 ≤ j → j < ln2 → (cpI C2 C 0 0 ln2) j = C2 j from by refine ⟨hq16, fun j a b => ?_⟩; show cpI C2 C 0 0 ln2 j = C2 j; rw [cp_in (by omega) (by omega)]; congr 1; omega)

theorem dVa_becomeNumber_0 : decode prog_6_method_3_code 0 = .ok (.aload_n 0, 1) := by decide +kernel
theorem dVa_becomeNumber_1 : decode prog_6_method_3_code 1 = .ok (.iconst 0, 1) := by decide +kernel
theorem dVa_becomeNumber_2 : decode prog_6_method_3_code 2 = .ok (.putfield 9, 3) := by decide +kernel
theorem dVa_becomeNumber_5 : decode prog_6_method_3_code 5 = .ok (.aload_n 0, 1) := by decide +kernel
theorem dVa_becomeNumber_6 : decode prog_6_method_3_code 6 = .ok (.getfield 18, 3) := by decide +kernel
theorem dVa_becomeNumber_9 : decode prog_6_method_3_code 9 = .ok (.aload_n 1, 1) := by decide +kernel
theorem dVa_becomeNumber_10 : decode prog_6_method_3_code 10 = .ok (.invokevirtual 36, 3) := by decide +kernel
theorem dVa_becomeNumber_13 : decode prog_6_method_3_code 13 = .ok (.aload_n 0, 1) := by decide +kernel
theorem dVa_becomeNumber_14 : decode prog_6_method_3_code 14 = .ok (.iload_n 2, 1) := by decide +kernel
theorem dVa_becomeNumber_15 : decode prog_6_method_3_code 15 = .ok (.ifCond .eq 14, 3) := by decide +kernel
theorem dVa_becomeNumber_18 : decode prog_6_method_3_code 18 = .ok (.aload_n 1, 1) := by decide +kernel
theorem dVa_becomeNumber_19 : decode prog_6_method_3_code 19 = .ok (.invokevirtual 46, 3) := by decide +kernel
theorem dVa_becomeNumber_22 : decode prog_6_method_3_code 22 = .ok (.ifCond .ne 7, 3) := by decide +kernel
theorem dVa_becomeNumber_25 : decode prog_6_method_3_code 25 = .ok (.iconst 1, 1) := by decide +kernel
theorem dVa_becomeNumber_26 : decode prog_6_method_3_code 26 = .ok (.goto 4, 3) := by decide +kernel
theorem dVa_becomeNumber_29 : decode prog_6_method_3_code 29 = .ok (.iconst 0, 1) := by decide +kernel
theorem dVa_becomeNumber_30 : decode prog_6_method_3_code 30 = .ok (.putfield 22, 3) := by decide +kernel
theorem dVa_becomeNumber_33 : decode prog_6_method_3_code 33 = .ok (.aload_n 0, 1) := by decide +kernel
theorem dVa_becomeNumber_34 : decode prog_6_method_3_code 34 = .ok (.iload_n 3, 1) := by decide +kernel
theorem dVa_becomeNumber_35 : decode prog_6_method_3_code 35 = .ok (.putfield 25, 3) := by decide +kernel
theorem dVa_becomeNumber_38 : decode prog_6_method_3_code 38 = .ok (.aload_n 0, 1) := by decide +kernel
theorem dVa_becomeNumber_39 : decode prog_6_method_3_code 39 = .ok (.iconst 0, 1) := by decide +kernel
theorem dVa_becomeNumber_40 : decode prog_6_method_3_code 40 = .ok (.putfield 33, 3) := by decide +kernel
theorem dVa_becomeNumber_43 : decode prog_6_method_3_code 43 = .ok (.return_, 1) := by decide +kernel
abbrev qVa_becomeNumber (dC : Nat → ClassId) (dI : Nat → Nat → Nat) (dA : Nat → ClassId) (x : Nat) (w : Nat) (cr : Nat) (t : Int) (ng : Int) (sc : Int) (C : Int → Int) (ln : Int) (g : Nat) (F : Int → Int) (u : Int) (a : Nat) (ga : Nat) (Fa : Int → Int) (ua : Int) (M : Int) (bz : Int) (isc : Int) (A : Nat → Prop) : Array Value → State → Outcome → State → Prop := QV (dC, dI) vwCl (tyA dA) (fun (v_ : (Int → Int) × Int) => WR v_.1 ua M ∧ (v_.2 = 0 ∨ v_.2 = 1) ∧ (v_.2 = 1 ↔ bz = 1 ∧ M ≠ 0)) (fun (v_ : (Int → Int) × Int) => wVa dA x w cr 0 v_.2 isc C 0 (wWh dA w g v_.1 ua (wWh dA a ga Fa ua []))) A
abbrev rmVa_becomeNumber : Room := { frames := 2, cells := 0, slots := 0, locals := 81 }
set_option maxRecDepth 100000 in
set_option maxHeartbeats 1000000 in
theorem cVa_becomeNumber (l : Launch) (dC : Nat → ClassId) (dI : Nat → Nat → Nat) (dA : Nat → ClassId) (x : Nat) (w : Nat) (cr : Nat) (t : Int) (ng : Int) (sc : Int) (C : Int → Int) (ln : Int) (g : Nat) (F : Int → Int) (u : Int) (a : Nat) (ga : Nat) (Fa : Int → Int) (ua : Int) (M : Int) (bz : Int) (isc : Int) (hW : WR Fa ua M) (hbz : bz = 0 ∨ bz = 1) (sz : Nat) : Met l yVa_becomeNumber wsVa_becomeNumber rmVa_becomeNumber (PC (dC, dI) vwCl (tyA dA) XN [.ref x, .ref a, .int (iI bz), .int (iI isc)] (wVa dA x w cr t ng sc C ln (wWh dA w g F u (wWh dA a ga Fa ua []))) sz) (qVa_becomeNumber dC dI dA x w cr t ng sc C ln g F u a ga Fa ua M bz isc (va_A (wVa dA x w cr t ng sc C ln (wWh dA w g F u (wWh dA a ga Fa ua []))) sz)) 0 0 (va_A (wVa dA x w cr t ng sc C ln (wWh dA w g F u (wWh dA a ga Fa ua []))) sz) := by
  refine met_of (cc := prog_6_method_3_code) (maxL := 4) (ret := none) (Qc := qVa_becomeNumber dC dI dA x w cr t ng sc C ln g F u a ga Fa ua M bz isc) XN_ok (by decide) rfl (Nat.le_of_ble_eq_true rfl) ?_
  intro p e s m below meth c ls A hx hb hr hml hown hts hlocks hnm hK hP hD hA hX hS hl
  have hl : lv_has ls 4 [(0, .ref x), (1, .ref a), (2, .int (iI bz)), (3, .int (iI isc))] := hl
  have hown : s.vm.findClass "MacroReckoner$Value" = some m.cls := hown
  obtain ⟨H, hH⟩ : ∃ H : Heap, H = s.heap := ⟨_, rfl⟩
  obtain ⟨locs, hlo⟩ : ∃ L : List Loc, L = [] := ⟨_, rfl⟩
  have hP : va_P (dC, dI) vwCl (wVa dA x w cr t ng sc C ln (wWh dA w g F u (wWh dA a ga Fa ua []))) H := hH ▸ hP
  have hS : va_S A s.heap H locs := by rw [hH, hlo]; exact hS
  suffices hgo : W p l e rmVa_becomeNumber s m [.ref x, .ref a, .int (iI bz), .int (iI isc)].toArray below meth c H locs 0 0 (MQ below (qVa_becomeNumber dC dI dA x w cr t ng sc C ln g F u a ga Fa ua M bz isc A) [.ref x, .ref a, .int (iI bz), .int (iI isc)].toArray s 0 0 A) (F0 m 0 ls []) by rw [hH, hlo] at hgo; exact hgo
  clear hH hlo
  refine lv_aload_n hx hb dVa_becomeNumber_0 rfl (lv_at hl 0 rfl) ?_
  refine lv_iconst (v := iI 0) hx hb dVa_becomeNumber_1 rfl ?_
  refine va_put (D := (dC, dI)) (ci := 4) (v := .int (iI 0)) (ty := .boolean) (C := "MacroReckoner$Value") (T := TVa) (N := 6) hx hb hts inVa tyVa tyVa_ok nmVa hown hK hP hD hS 0 rfl rfl 0 (by decide) (hts _ wt1_100) (fun _ h9 => h9) rfl (by decide +kernel) (nrw_bool (by omega)) (fit_bool (by omega)) (Nat.le_of_ble_eq_true rfl) dVa_becomeNumber_2 (fun H locs hP hD hS => ?_)
  have hP : va_P (dC, dI) vwCl (wVa dA x w cr 0 ng sc C ln (wWh dA w g F u (wWh dA a ga Fa ua []))) H := hP
  have hD : va_D A (wVa dA x w cr 0 ng sc C ln (wWh dA w g F u (wWh dA a ga Fa ua []))) := hD
  refine lv_aload_n hx hb dVa_becomeNumber_5 rfl (lv_at hl 0 rfl) ?_
  refine va_get (D := (dC, dI)) (ci := 4) (v := .ref w) (C := "MacroReckoner$Value") (T := TVa) (N := 6) hx hb hts inVa hown hK hP 0 rfl rfl 1 (by decide) (hts _ wt1_103) (fun _ h9 => h9) rfl dVa_becomeNumber_6 ?_
  refine lv_aload_n hx hb dVa_becomeNumber_9 rfl (lv_at hl 1 rfl) ?_
  refine cv_v (va_runV (C := "MacroReckoner$Whole") (As := [.ref a]) (rest := []) ⟨hx, hb, hml, hown, hts⟩ (cWh_become l dC dI dA w g F u a ga Fa ua M (by exact hW) H.size) (cwV 1 hts (gdV wt3_44 wt3_45 wt3_46 wt1_5 wt3_47) rfl rfl rfl ⟨rfl, by decide, by decide, by decide +kernel⟩ ⟨by decide, by decide⟩) (preV (q := ("MacroReckoner$Whole", TWh, 2)) hK hP hD hS hA XN_ok trivial [2, 3, 4, 5] rfl rfl 0 rfl rfl) rfl rfl hl.1 rfl (lv_room (Nat.le_of_ble_eq_true rfl)) dVa_becomeNumber_10 ⟨Nat.zero_le _, Nat.zero_le _⟩) hP hD hS hA [2, 3, 4, 5] [0, 1] rfl (fun v_ => wVa dA x w cr 0 ng sc C ln (wWh dA w g v_ ua (wWh dA a ga Fa ua []))) (fun _ => rfl) (wVa dA x w cr 0 ng sc C ln []) rfl (fun _ => rfl) [x, cr, w, g, a, ga] rfl (fun _ => rfl) (fun _ => rfl) (fun u_ H locs hq10 hP hD hS => ?_)
  obtain ⟨F9, rfl⟩ : ∃ z, z = u_ := ⟨_, rfl⟩
  have hP : va_P (dC, dI) vwCl (wVa dA x w cr 0 ng sc C ln (wWh dA w g F9 ua (wWh dA a ga Fa ua []))) H := hP
  have hD : va_D A (wVa dA x w cr 0 ng sc C ln (wWh dA w g F9 ua (wWh dA a ga Fa ua []))) := hD
  have hq10 : WR F9 ua M := hq10
  refine lv_aload_n hx hb dVa_becomeNumber_13 rfl (lv_at hl 0 rfl) ?_
  refine lv_iload_n hx hb dVa_becomeNumber_14 rfl (lv_at hl 2 rfl) ?_
  refine iv_if_eq (tgt := 29) hx hb dVa_becomeNumber_15 (by decide) ⟨by omega, by omega⟩ (fun hc15 => ?_) (fun hc15 => ?_)
  · refine lv_iconst (v := iI 0) hx hb dVa_becomeNumber_29 rfl ?_
    refine va_put (D := (dC, dI)) (ci := 4) (v := .int (iI 0)) (ty := .boolean) (C := "MacroReckoner$Value") (T := TVa) (N := 6) hx hb hts inVa tyVa tyVa_ok nmVa hown hK hP hD hS 0 rfl rfl 2 (by decide) (hts _ wt1_107) (fun _ h9 => h9) rfl (by decide +kernel) (nrw_bool (by omega)) (fit_bool (by omega)) (Nat.le_of_ble_eq_true rfl) dVa_becomeNumber_30 (fun H locs hP hD hS => ?_)
    have hP : va_P (dC, dI) vwCl (wVa dA x w cr 0 0 sc C ln (wWh dA w g F9 ua (wWh dA a ga Fa ua []))) H := hP
    have hD : va_D A (wVa dA x w cr 0 0 sc C ln (wWh dA w g F9 ua (wWh dA a ga Fa ua []))) := hD
    refine lv_aload_n hx hb dVa_becomeNumber_33 rfl (lv_at hl 0 rfl) ?_
    refine lv_iload_n hx hb dVa_becomeNumber_34 rfl (lv_at hl 3 rfl) ?_
    refine va_put (D := (dC, dI)) (ci := 4) (v := .int (iI isc)) (ty := .int) (C := "MacroReckoner$Value") (T := TVa) (N := 6) hx hb hts inVa tyVa tyVa_ok nmVa hown hK hP hD hS 0 rfl rfl 3 (by decide) (hts _ wt1_111) (fun _ h9 => h9) rfl (by decide +kernel) rfl rfl (Nat.le_of_ble_eq_true rfl) dVa_becomeNumber_35 (fun H locs hP hD hS => ?_)
    have hP : va_P (dC, dI) vwCl (wVa dA x w cr 0 0 isc C ln (wWh dA w g F9 ua (wWh dA a ga Fa ua []))) H := hP
    have hD : va_D A (wVa dA x w cr 0 0 isc C ln (wWh dA w g F9 ua (wWh dA a ga Fa ua []))) := hD
    refine lv_aload_n hx hb dVa_becomeNumber_38 rfl (lv_at hl 0 rfl) ?_
    refine lv_iconst (v := iI 0) hx hb dVa_becomeNumber_39 rfl ?_
    refine va_put (D := (dC, dI)) (ci := 4) (v := .int (iI 0)) (ty := .int) (C := "MacroReckoner$Value") (T := TVa) (N := 6) hx hb hts inVa tyVa tyVa_ok nmVa hown hK hP hD hS 0 rfl rfl 5 (by decide) (hts _ wt1_118) (fun _ h9 => h9) rfl (by decide +kernel) rfl rfl (Nat.le_of_ble_eq_true rfl) dVa_becomeNumber_40 (fun H locs hP hD hS => ?_)
    have hP : va_P (dC, dI) vwCl (wVa dA x w cr 0 0 isc C 0 (wWh dA w g F9 ua (wWh dA a ga Fa ua []))) H := hP
    have hD : va_D A (wVa dA x w cr 0 0 isc C 0 (wWh dA w g F9 ua (wWh dA a ga Fa ua []))) := hD
    exact rt_v hx hb hr hlocks hK hS dVa_becomeNumber_43 (F9, 0) hP hD (show WR F9 ua M ∧ (0 = 0 ∨ 0 = 1) ∧ (0 = 1 ↔ bz = 1 ∧ M ≠ 0) from by refine ⟨hq10, ?_⟩; omega)
  · refine lv_aload_n hx hb dVa_becomeNumber_18 rfl (lv_at hl 1 rfl) ?_
    refine cv_i (va_runV (C := "MacroReckoner$Whole") (As := []) (rest := [.ref x]) ⟨hx, hb, hml, hown, hts⟩ (cWh_isZero l dC dI dA a ga Fa ua M (by exact hW) H.size) (cwV 0 hts (gdV wt3_22 wt3_23 wt3_24 wt1_5 wt3_25) rfl rfl rfl ⟨rfl, by decide, by decide, by decide +kernel⟩ ⟨by decide, by decide⟩) (preV (q := ("MacroReckoner$Whole", TWh, 2)) hK hP hD hS hA XN_ok trivial [4, 5] rfl rfl 0 rfl rfl) rfl rfl hl.1 rfl (lv_room (Nat.le_of_ble_eq_true rfl)) dVa_becomeNumber_19 ⟨Nat.zero_le _, Nat.zero_le _⟩) hP hD hS hA [4, 5] [0, 1, 2, 3] rfl (fun v_ => wVa dA x w cr 0 ng sc C ln (wWh dA w g F9 ua (wWh dA a ga Fa ua []))) (fun _ => rfl) (wVa dA x w cr 0 ng sc C ln (wWh dA w g F9 ua [])) rfl (fun _ => rfl) [x, cr, w, g, a, ga] rfl (fun _ => rfl) (fun _ => rfl) (fun r19 u_ H locs hq19 hP hD hS => ?_)
    have hP : va_P (dC, dI) vwCl (wVa dA x w cr 0 ng sc C ln (wWh dA w g F9 ua (wWh dA a ga Fa ua []))) H := hP
    have hD : va_D A (wVa dA x w cr 0 ng sc C ln (wWh dA w g F9 ua (wWh dA a ga Fa ua []))) := hD
    have hq19 : (r19 = 1 ∧ M = 0) ∨ (r19 = 0 ∧ M ≠ 0) := hq19
    refine iv_if_ne (tgt := 29) hx hb dVa_becomeNumber_22 (by decide) ⟨by omega, by omega⟩ (fun hc22 => ?_) (fun hc22 => ?_)
    · refine lv_iconst (v := iI 0) hx hb dVa_becomeNumber_29 rfl ?_
      refine va_put (D := (dC, dI)) (ci := 4) (v := .int (iI 0)) (ty := .boolean) (C := "MacroReckoner$Value") (T := TVa) (N := 6) hx hb hts inVa tyVa tyVa_ok nmVa hown hK hP hD hS 0 rfl rfl 2 (by decide) (hts _ wt1_107) (fun _ h9 => h9) rfl (by decide +kernel) (nrw_bool (by omega)) (fit_bool (by omega)) (Nat.le_of_ble_eq_true rfl) dVa_becomeNumber_30 (fun H locs hP hD hS => ?_)
      have hP : va_P (dC, dI) vwCl (wVa dA x w cr 0 0 sc C ln (wWh dA w g F9 ua (wWh dA a ga Fa ua []))) H := hP
      have hD : va_D A (wVa dA x w cr 0 0 sc C ln (wWh dA w g F9 ua (wWh dA a ga Fa ua []))) := hD
      refine lv_aload_n hx hb dVa_becomeNumber_33 rfl (lv_at hl 0 rfl) ?_
      refine lv_iload_n hx hb dVa_becomeNumber_34 rfl (lv_at hl 3 rfl) ?_
      refine va_put (D := (dC, dI)) (ci := 4) (v := .int (iI isc)) (ty := .int) (C := "MacroReckoner$Value") (T := TVa) (N := 6) hx hb hts inVa tyVa tyVa_ok nmVa hown hK hP hD hS 0 rfl rfl 3 (by decide) (hts _ wt1_111) (fun _ h9 => h9) rfl (by decide +kernel) rfl rfl (Nat.le_of_ble_eq_true rfl) dVa_becomeNumber_35 (fun H locs hP hD hS => ?_)
      have hP : va_P (dC, dI) vwCl (wVa dA x w cr 0 0 isc C ln (wWh dA w g F9 ua (wWh dA a ga Fa ua []))) H := hP
      have hD : va_D A (wVa dA x w cr 0 0 isc C ln (wWh dA w g F9 ua (wWh dA a ga Fa ua []))) := hD
      refine lv_aload_n hx hb dVa_becomeNumber_38 rfl (lv_at hl 0 rfl) ?_
      refine lv_iconst (v := iI 0) hx hb dVa_becomeNumber_39 rfl ?_
      refine va_put (D := (dC, dI)) (ci := 4) (v := .int (iI 0)) (ty := .int) (C := "MacroReckoner$Value") (T := TVa) (N := 6) hx hb hts inVa tyVa tyVa_ok nmVa hown hK hP hD hS 0 rfl rfl 5 (by decide) (hts _ wt1_118) (fun _ h9 => h9) rfl (by decide +kernel) rfl rfl (Nat.le_of_ble_eq_true rfl) dVa_becomeNumber_40 (fun H locs hP hD hS => ?_)
      have hP : va_P (dC, dI) vwCl (wVa dA x w cr 0 0 isc C 0 (wWh dA w g F9 ua (wWh dA a ga Fa ua []))) H := hP
      have hD : va_D A (wVa dA x w cr 0 0 isc C 0 (wWh dA w g F9 ua (wWh dA a ga Fa ua []))) := hD
      exact rt_v hx hb hr hlocks hK hS dVa_becomeNumber_43 (F9, 0) hP hD (show WR F9 ua M ∧ (0 = 0 ∨ 0 = 1) ∧ (0 = 1 ↔ bz = 1 ∧ M ≠ 0) from by refine ⟨hq10, ?_⟩; omega)
    · refine lv_iconst (v := iI 1) hx hb dVa_becomeNumber_25 rfl ?_
      refine lv_goto (tgt := 30) hx hb dVa_becomeNumber_26 (by decide) ?_
      refine va_put (D := (dC, dI)) (ci := 4) (v := .int (iI 1)) (ty := .boolean) (C := "MacroReckoner$Value") (T := TVa) (N := 6) hx hb hts inVa tyVa tyVa_ok nmVa hown hK hP hD hS 0 rfl rfl 2 (by decide) (hts _ wt1_107) (fun _ h9 => h9) rfl (by decide +kernel) (nrw_bool (by omega)) (fit_bool (by omega)) (Nat.le_of_ble_eq_true rfl) dVa_becomeNumber_30 (fun H locs hP hD hS => ?_)
      have hP : va_P (dC, dI) vwCl (wVa dA x w cr 0 1 sc C ln (wWh dA w g F9 ua (wWh dA a ga Fa ua []))) H := hP
      have hD : va_D A (wVa dA x w cr 0 1 sc C ln (wWh dA w g F9 ua (wWh dA a ga Fa ua []))) := hD
      refine lv_aload_n hx hb dVa_becomeNumber_33 rfl (lv_at hl 0 rfl) ?_
      refine lv_iload_n hx hb dVa_becomeNumber_34 rfl (lv_at hl 3 rfl) ?_
      refine va_put (D := (dC, dI)) (ci := 4) (v := .int (iI isc)) (ty := .int) (C := "MacroReckoner$Value") (T := TVa) (N := 6) hx hb hts inVa tyVa tyVa_ok nmVa hown hK hP hD hS 0 rfl rfl 3 (by decide) (hts _ wt1_111) (fun _ h9 => h9) rfl (by decide +kernel) rfl rfl (Nat.le_of_ble_eq_true rfl) dVa_becomeNumber_35 (fun H locs hP hD hS => ?_)
      have hP : va_P (dC, dI) vwCl (wVa dA x w cr 0 1 isc C ln (wWh dA w g F9 ua (wWh dA a ga Fa ua []))) H := hP
      have hD : va_D A (wVa dA x w cr 0 1 isc C ln (wWh dA w g F9 ua (wWh dA a ga Fa ua []))) := hD
      refine lv_aload_n hx hb dVa_becomeNumber_38 rfl (lv_at hl 0 rfl) ?_
      refine lv_iconst (v := iI 0) hx hb dVa_becomeNumber_39 rfl ?_
      refine va_put (D := (dC, dI)) (ci := 4) (v := .int (iI 0)) (ty := .int) (C := "MacroReckoner$Value") (T := TVa) (N := 6) hx hb hts inVa tyVa tyVa_ok nmVa hown hK hP hD hS 0 rfl rfl 5 (by decide) (hts _ wt1_118) (fun _ h9 => h9) rfl (by decide +kernel) rfl rfl (Nat.le_of_ble_eq_true rfl) dVa_becomeNumber_40 (fun H locs hP hD hS => ?_)
      have hP : va_P (dC, dI) vwCl (wVa dA x w cr 0 1 isc C 0 (wWh dA w g F9 ua (wWh dA a ga Fa ua []))) H := hP
      have hD : va_D A (wVa dA x w cr 0 1 isc C 0 (wWh dA w g F9 ua (wWh dA a ga Fa ua []))) := hD
      exact rt_v hx hb hr hlocks hK hS dVa_becomeNumber_43 (F9, 1) hP hD (show WR F9 ua M ∧ (1 = 0 ∨ 1 = 1) ∧ (1 = 1 ↔ bz = 1 ∧ M ≠ 0) from by refine ⟨hq10, ?_⟩; omega)

theorem dVa_becomeCount_0 : decode prog_6_method_4_code 0 = .ok (.aload_n 0, 1) := by decide +kernel
theorem dVa_becomeCount_1 : decode prog_6_method_4_code 1 = .ok (.iconst 0, 1) := by decide +kernel
theorem dVa_becomeCount_2 : decode prog_6_method_4_code 2 = .ok (.putfield 9, 3) := by decide +kernel
theorem dVa_becomeCount_5 : decode prog_6_method_4_code 5 = .ok (.aload_n 0, 1) := by decide +kernel
theorem dVa_becomeCount_6 : decode prog_6_method_4_code 6 = .ok (.getfield 18, 3) := by decide +kernel
theorem dVa_becomeCount_9 : decode prog_6_method_4_code 9 = .ok (.iload_n 1, 1) := by decide +kernel
theorem dVa_becomeCount_10 : decode prog_6_method_4_code 10 = .ok (.invokevirtual 50, 3) := by decide +kernel
theorem dVa_becomeCount_13 : decode prog_6_method_4_code 13 = .ok (.aload_n 0, 1) := by decide +kernel
theorem dVa_becomeCount_14 : decode prog_6_method_4_code 14 = .ok (.iconst 0, 1) := by decide +kernel
theorem dVa_becomeCount_15 : decode prog_6_method_4_code 15 = .ok (.putfield 22, 3) := by decide +kernel
theorem dVa_becomeCount_18 : decode prog_6_method_4_code 18 = .ok (.aload_n 0, 1) := by decide +kernel
theorem dVa_becomeCount_19 : decode prog_6_method_4_code 19 = .ok (.iconst 0, 1) := by decide +kernel
theorem dVa_becomeCount_20 : decode prog_6_method_4_code 20 = .ok (.putfield 25, 3) := by decide +kernel
theorem dVa_becomeCount_23 : decode prog_6_method_4_code 23 = .ok (.aload_n 0, 1) := by decide +kernel
theorem dVa_becomeCount_24 : decode prog_6_method_4_code 24 = .ok (.iconst 0, 1) := by decide +kernel
theorem dVa_becomeCount_25 : decode prog_6_method_4_code 25 = .ok (.putfield 33, 3) := by decide +kernel
theorem dVa_becomeCount_28 : decode prog_6_method_4_code 28 = .ok (.return_, 1) := by decide +kernel
abbrev qVa_becomeCount (dC : Nat → ClassId) (dI : Nat → Nat → Nat) (dA : Nat → ClassId) (x : Nat) (w : Nat) (cr : Nat) (t : Int) (ng : Int) (sc : Int) (C : Int → Int) (ln : Int) (g : Nat) (F : Int → Int) (u : Int) (k : Int) (A : Nat → Prop) : Array Value → State → Outcome → State → Prop := QV (dC, dI) vwCl (tyA dA) (fun (v_ : (Int → Int) × Int) => WR v_.1 v_.2 k) (fun (v_ : (Int → Int) × Int) => wVa dA x w cr 0 0 0 C 0 (wWh dA w g v_.1 v_.2 [])) A
abbrev rmVa_becomeCount : Room := { frames := 1, cells := 0, slots := 0, locals := 21 }
set_option maxRecDepth 100000 in
set_option maxHeartbeats 1000000 in
theorem cVa_becomeCount (l : Launch) (dC : Nat → ClassId) (dI : Nat → Nat → Nat) (dA : Nat → ClassId) (x : Nat) (w : Nat) (cr : Nat) (t : Int) (ng : Int) (sc : Int) (C : Int → Int) (ln : Int) (g : Nat) (F : Int → Int) (u : Int) (k : Int) (hk : 0 ≤ k ∧ k < 1000000000) (sz : Nat) : Met l yVa_becomeCount wsVa_becomeCount rmVa_becomeCount (PC (dC, dI) vwCl (tyA dA) XN [.ref x, .int (iI k)] (wVa dA x w cr t ng sc C ln (wWh dA w g F u [])) sz) (qVa_becomeCount dC dI dA x w cr t ng sc C ln g F u k (va_A (wVa dA x w cr t ng sc C ln (wWh dA w g F u [])) sz)) 0 0 (va_A (wVa dA x w cr t ng sc C ln (wWh dA w g F u [])) sz) := by
  refine met_of (cc := prog_6_method_4_code) (maxL := 2) (ret := none) (Qc := qVa_becomeCount dC dI dA x w cr t ng sc C ln g F u k) XN_ok (by decide) rfl (Nat.le_of_ble_eq_true rfl) ?_
  intro p e s m below meth c ls A hx hb hr hml hown hts hlocks hnm hK hP hD hA hX hS hl
  have hl : lv_has ls 2 [(0, .ref x), (1, .int (iI k))] := hl
  have hown : s.vm.findClass "MacroReckoner$Value" = some m.cls := hown
  obtain ⟨H, hH⟩ : ∃ H : Heap, H = s.heap := ⟨_, rfl⟩
  obtain ⟨locs, hlo⟩ : ∃ L : List Loc, L = [] := ⟨_, rfl⟩
  have hP : va_P (dC, dI) vwCl (wVa dA x w cr t ng sc C ln (wWh dA w g F u [])) H := hH ▸ hP
  have hS : va_S A s.heap H locs := by rw [hH, hlo]; exact hS
  suffices hgo : W p l e rmVa_becomeCount s m [.ref x, .int (iI k)].toArray below meth c H locs 0 0 (MQ below (qVa_becomeCount dC dI dA x w cr t ng sc C ln g F u k A) [.ref x, .int (iI k)].toArray s 0 0 A) (F0 m 0 ls []) by rw [hH, hlo] at hgo; exact hgo
  clear hH hlo
  refine lv_aload_n hx hb dVa_becomeCount_0 rfl (lv_at hl 0 rfl) ?_
  refine lv_iconst (v := iI 0) hx hb dVa_becomeCount_1 rfl ?_
  refine va_put (D := (dC, dI)) (ci := 4) (v := .int (iI 0)) (ty := .boolean) (C := "MacroReckoner$Value") (T := TVa) (N := 6) hx hb hts inVa tyVa tyVa_ok nmVa hown hK hP hD hS 0 rfl rfl 0 (by decide) (hts _ wt1_100) (fun _ h9 => h9) rfl (by decide +kernel) (nrw_bool (by omega)) (fit_bool (by omega)) (Nat.le_of_ble_eq_true rfl) dVa_becomeCount_2 (fun H locs hP hD hS => ?_)
  have hP : va_P (dC, dI) vwCl (wVa dA x w cr 0 ng sc C ln (wWh dA w g F u [])) H := hP
  have hD : va_D A (wVa dA x w cr 0 ng sc C ln (wWh dA w g F u [])) := hD
  refine lv_aload_n hx hb dVa_becomeCount_5 rfl (lv_at hl 0 rfl) ?_
  refine va_get (D := (dC, dI)) (ci := 4) (v := .ref w) (C := "MacroReckoner$Value") (T := TVa) (N := 6) hx hb hts inVa hown hK hP 0 rfl rfl 1 (by decide) (hts _ wt1_103) (fun _ h9 => h9) rfl dVa_becomeCount_6 ?_
  refine lv_iload_n hx hb dVa_becomeCount_9 rfl (lv_at hl 1 rfl) ?_
  refine cv_v (va_runV (C := "MacroReckoner$Whole") (As := [.int (iI k)]) (rest := []) ⟨hx, hb, hml, hown, hts⟩ (cWh_becomeSmall l dC dI dA w g F u k (by omega) H.size) (cwV 1 hts (gdV wt3_13 wt3_14 wt3_15 wt1_5 wt3_16) rfl rfl rfl ⟨rfl, by decide, by decide, by decide +kernel⟩ ⟨by decide, by decide⟩) (preV (q := ("MacroReckoner$Whole", TWh, 2)) hK hP hD hS hA XN_ok trivial [2, 3] rfl rfl 0 rfl rfl) rfl rfl hl.1 rfl (lv_room (Nat.le_of_ble_eq_true rfl)) dVa_becomeCount_10 ⟨Nat.zero_le _, Nat.zero_le _⟩) hP hD hS hA [2, 3] [0, 1] rfl (fun v_ => wVa dA x w cr 0 ng sc C ln (wWh dA w g v_.1 v_.2 [])) (fun _ => rfl) (wVa dA x w cr 0 ng sc C ln []) rfl (fun _ => rfl) [x, cr, w, g] rfl (fun _ => rfl) (fun _ => rfl) (fun u_ H locs hq10 hP hD hS => ?_)
  obtain ⟨F9, u9⟩ := u_
  have hP : va_P (dC, dI) vwCl (wVa dA x w cr 0 ng sc C ln (wWh dA w g F9 u9 [])) H := hP
  have hD : va_D A (wVa dA x w cr 0 ng sc C ln (wWh dA w g F9 u9 [])) := hD
  have hq10 : WR F9 u9 k := hq10
  refine lv_aload_n hx hb dVa_becomeCount_13 rfl (lv_at hl 0 rfl) ?_
  refine lv_iconst (v := iI 0) hx hb dVa_becomeCount_14 rfl ?_
  refine va_put (D := (dC, dI)) (ci := 4) (v := .int (iI 0)) (ty := .boolean) (C := "MacroReckoner$Value") (T := TVa) (N := 6) hx hb hts inVa tyVa tyVa_ok nmVa hown hK hP hD hS 0 rfl rfl 2 (by decide) (hts _ wt1_107) (fun _ h9 => h9) rfl (by decide +kernel) (nrw_bool (by omega)) (fit_bool (by omega)) (Nat.le_of_ble_eq_true rfl) dVa_becomeCount_15 (fun H locs hP hD hS => ?_)
  have hP : va_P (dC, dI) vwCl (wVa dA x w cr 0 0 sc C ln (wWh dA w g F9 u9 [])) H := hP
  have hD : va_D A (wVa dA x w cr 0 0 sc C ln (wWh dA w g F9 u9 [])) := hD
  refine lv_aload_n hx hb dVa_becomeCount_18 rfl (lv_at hl 0 rfl) ?_
  refine lv_iconst (v := iI 0) hx hb dVa_becomeCount_19 rfl ?_
  refine va_put (D := (dC, dI)) (ci := 4) (v := .int (iI 0)) (ty := .int) (C := "MacroReckoner$Value") (T := TVa) (N := 6) hx hb hts inVa tyVa tyVa_ok nmVa hown hK hP hD hS 0 rfl rfl 3 (by decide) (hts _ wt1_111) (fun _ h9 => h9) rfl (by decide +kernel) rfl rfl (Nat.le_of_ble_eq_true rfl) dVa_becomeCount_20 (fun H locs hP hD hS => ?_)
  have hP : va_P (dC, dI) vwCl (wVa dA x w cr 0 0 0 C ln (wWh dA w g F9 u9 [])) H := hP
  have hD : va_D A (wVa dA x w cr 0 0 0 C ln (wWh dA w g F9 u9 [])) := hD
  refine lv_aload_n hx hb dVa_becomeCount_23 rfl (lv_at hl 0 rfl) ?_
  refine lv_iconst (v := iI 0) hx hb dVa_becomeCount_24 rfl ?_
  refine va_put (D := (dC, dI)) (ci := 4) (v := .int (iI 0)) (ty := .int) (C := "MacroReckoner$Value") (T := TVa) (N := 6) hx hb hts inVa tyVa tyVa_ok nmVa hown hK hP hD hS 0 rfl rfl 5 (by decide) (hts _ wt1_118) (fun _ h9 => h9) rfl (by decide +kernel) rfl rfl (Nat.le_of_ble_eq_true rfl) dVa_becomeCount_25 (fun H locs hP hD hS => ?_)
  have hP : va_P (dC, dI) vwCl (wVa dA x w cr 0 0 0 C 0 (wWh dA w g F9 u9 [])) H := hP
  have hD : va_D A (wVa dA x w cr 0 0 0 C 0 (wWh dA w g F9 u9 [])) := hD
  exact rt_v hx hb hr hlocks hK hS dVa_becomeCount_28 (F9, u9) hP hD (show WR F9 u9 k from by exact hq10)

theorem dVa_becomeText_0 : decode prog_6_method_5_code 0 = .ok (.aload_n 0, 1) := by decide +kernel
theorem dVa_becomeText_1 : decode prog_6_method_5_code 1 = .ok (.iconst 0, 1) := by decide +kernel
theorem dVa_becomeText_2 : decode prog_6_method_5_code 2 = .ok (.invokevirtual 54, 3) := by decide +kernel
theorem dVa_becomeText_5 : decode prog_6_method_5_code 5 = .ok (.aload_n 0, 1) := by decide +kernel
theorem dVa_becomeText_6 : decode prog_6_method_5_code 6 = .ok (.iconst 1, 1) := by decide +kernel
theorem dVa_becomeText_7 : decode prog_6_method_5_code 7 = .ok (.putfield 9, 3) := by decide +kernel
theorem dVa_becomeText_10 : decode prog_6_method_5_code 10 = .ok (.aload_n 1, 1) := by decide +kernel
theorem dVa_becomeText_11 : decode prog_6_method_5_code 11 = .ok (.iload_n 2, 1) := by decide +kernel
theorem dVa_becomeText_12 : decode prog_6_method_5_code 12 = .ok (.aload_n 0, 1) := by decide +kernel
theorem dVa_becomeText_13 : decode prog_6_method_5_code 13 = .ok (.getfield 29, 3) := by decide +kernel
theorem dVa_becomeText_16 : decode prog_6_method_5_code 16 = .ok (.iconst 0, 1) := by decide +kernel
theorem dVa_becomeText_17 : decode prog_6_method_5_code 17 = .ok (.iload_n 3, 1) := by decide +kernel
theorem dVa_becomeText_18 : decode prog_6_method_5_code 18 = .ok (.invokestatic 40, 3) := by decide +kernel
theorem dVa_becomeText_21 : decode prog_6_method_5_code 21 = .ok (.aload_n 0, 1) := by decide +kernel
theorem dVa_becomeText_22 : decode prog_6_method_5_code 22 = .ok (.iload_n 3, 1) := by decide +kernel
theorem dVa_becomeText_23 : decode prog_6_method_5_code 23 = .ok (.putfield 33, 3) := by decide +kernel
theorem dVa_becomeText_26 : decode prog_6_method_5_code 26 = .ok (.return_, 1) := by decide +kernel
abbrev qVa_becomeText (dC : Nat → ClassId) (dI : Nat → Nat → Nat) (dA : Nat → ClassId) (x : Nat) (w : Nat) (cr : Nat) (t : Int) (ng : Int) (sc : Int) (C : Int → Int) (ln : Int) (g : Nat) (F : Int → Int) (u : Int) (fr : Nat) (nn : Nat) (D : Int → Int) (s0 : Int) (n0 : Int) (A : Nat → Prop) : Array Value → State → Outcome → State → Prop := QV (dC, dI) vwCl (tyA dA) (fun (v_ : (Int → Int) × Int × (Int → Int)) => WR v_.1 v_.2.1 0 ∧ ∀ j, 0 ≤ j → j < n0 → v_.2.2 j = D (s0 + j)) (fun (v_ : (Int → Int) × Int × (Int → Int)) => wVa dA x w cr 1 0 0 v_.2.2 n0 (wWh dA w g v_.1 v_.2.1 (wCh dA fr nn D []))) A
abbrev rmVa_becomeText : Room := { frames := 2, cells := 0, slots := 0, locals := 60 }
set_option maxRecDepth 100000 in
set_option maxHeartbeats 1000000 in
theorem cVa_becomeText (l : Launch) (dC : Nat → ClassId) (dI : Nat → Nat → Nat) (dA : Nat → ClassId) (x : Nat) (w : Nat) (cr : Nat) (t : Int) (ng : Int) (sc : Int) (C : Int → Int) (ln : Int) (g : Nat) (F : Int → Int) (u : Int) (fr : Nat) (nn : Nat) (D : Int → Int) (s0 : Int) (n0 : Int) (hn : 0 ≤ s0 ∧ 0 ≤ n0 ∧ n0 ≤ 60 ∧ s0 + n0 ≤ nn ∧ nn ≤ 100) (hch : ∀ j, 0 ≤ j → j < n0 → 32 ≤ D (s0 + j) ∧ D (s0 + j) ≤ 126) (sz : Nat) : Met l yVa_becomeText wsVa_becomeText rmVa_becomeText (PC (dC, dI) vwCl (tyA dA) XN [.ref x, .ref fr, .int (iI s0), .int (iI n0)] (wVa dA x w cr t ng sc C ln (wWh dA w g F u (wCh dA fr nn D []))) sz) (qVa_becomeText dC dI dA x w cr t ng sc C ln g F u fr nn D s0 n0 (va_A (wVa dA x w cr t ng sc C ln (wWh dA w g F u (wCh dA fr nn D []))) sz)) 0 0 (va_A (wVa dA x w cr t ng sc C ln (wWh dA w g F u (wCh dA fr nn D []))) sz) := by
  refine met_of (cc := prog_6_method_5_code) (maxL := 4) (ret := none) (Qc := qVa_becomeText dC dI dA x w cr t ng sc C ln g F u fr nn D s0 n0) XN_ok (by decide) rfl (Nat.le_of_ble_eq_true rfl) ?_
  intro p e s m below meth c ls A hx hb hr hml hown hts hlocks hnm hK hP hD hA hX hS hl
  have hl : lv_has ls 4 [(0, .ref x), (1, .ref fr), (2, .int (iI s0)), (3, .int (iI n0))] := hl
  have hown : s.vm.findClass "MacroReckoner$Value" = some m.cls := hown
  obtain ⟨H, hH⟩ : ∃ H : Heap, H = s.heap := ⟨_, rfl⟩
  obtain ⟨locs, hlo⟩ : ∃ L : List Loc, L = [] := ⟨_, rfl⟩
  have hP : va_P (dC, dI) vwCl (wVa dA x w cr t ng sc C ln (wWh dA w g F u (wCh dA fr nn D []))) H := hH ▸ hP
  have hS : va_S A s.heap H locs := by rw [hH, hlo]; exact hS
  suffices hgo : W p l e rmVa_becomeText s m [.ref x, .ref fr, .int (iI s0), .int (iI n0)].toArray below meth c H locs 0 0 (MQ below (qVa_becomeText dC dI dA x w cr t ng sc C ln g F u fr nn D s0 n0 A) [.ref x, .ref fr, .int (iI s0), .int (iI n0)].toArray s 0 0 A) (F0 m 0 ls []) by rw [hH, hlo] at hgo; exact hgo
  clear hH hlo
  refine lv_aload_n hx hb dVa_becomeText_0 rfl (lv_at hl 0 rfl) ?_
  refine lv_iconst (v := iI 0) hx hb dVa_becomeText_1 rfl ?_
  refine cv_v (va_runV (C := "MacroReckoner$Value") (As := [.int (iI 0)]) (rest := []) ⟨hx, hb, hml, hown, hts⟩ (cVa_becomeCount l dC dI dA x w cr t ng sc C ln g F u 0 (by omega) H.size) (cwV 1 hts (gdV wt3_9 wt3_10 wt3_11 wt1_4 wt3_12) rfl rfl rfl ⟨rfl, by decide, by decide, by decide +kernel⟩ ⟨by decide, by decide⟩) (preV (q := ("MacroReckoner$Value", TVa, 6)) hK hP hD hS hA XN_ok trivial [0, 1, 2, 3] rfl rfl 0 rfl rfl) rfl rfl hl.1 rfl (lv_room (Nat.le_of_ble_eq_true rfl)) dVa_becomeText_2 ⟨Nat.zero_le _, Nat.zero_le _⟩) hP hD hS hA [0, 1, 2, 3] [4] rfl (fun v_ => wVa dA x w cr 0 0 0 C 0 (wWh dA w g v_.1 v_.2 (wCh dA fr nn D []))) (fun _ => rfl) (wCh dA fr nn D []) rfl (fun _ => rfl) [x, cr, w, g, fr] rfl (fun _ => rfl) (fun _ => rfl) (fun u_ H locs hq2 hP hD hS => ?_)
  obtain ⟨F9, u9⟩ := u_
  have hP : va_P (dC, dI) vwCl (wVa dA x w cr 0 0 0 C 0 (wWh dA w g F9 u9 (wCh dA fr nn D []))) H := hP
  have hD : va_D A (wVa dA x w cr 0 0 0 C 0 (wWh dA w g F9 u9 (wCh dA fr nn D []))) := hD
  have hq2 : WR F9 u9 0 := hq2
  refine lv_aload_n hx hb dVa_becomeText_5 rfl (lv_at hl 0 rfl) ?_
  refine lv_iconst (v := iI 1) hx hb dVa_becomeText_6 rfl ?_
  refine va_put (D := (dC, dI)) (ci := 4) (v := .int (iI 1)) (ty := .boolean) (C := "MacroReckoner$Value") (T := TVa) (N := 6) hx hb hts inVa tyVa tyVa_ok nmVa hown hK hP hD hS 0 rfl rfl 0 (by decide) (hts _ wt1_100) (fun _ h9 => h9) rfl (by decide +kernel) (nrw_bool (by omega)) (fit_bool (by omega)) (Nat.le_of_ble_eq_true rfl) dVa_becomeText_7 (fun H locs hP hD hS => ?_)
  have hP : va_P (dC, dI) vwCl (wVa dA x w cr 1 0 0 C 0 (wWh dA w g F9 u9 (wCh dA fr nn D []))) H := hP
  have hD : va_D A (wVa dA x w cr 1 0 0 C 0 (wWh dA w g F9 u9 (wCh dA fr nn D []))) := hD
  refine lv_aload_n hx hb dVa_becomeText_10 rfl (lv_at hl 1 rfl) ?_
  refine lv_iload_n hx hb dVa_becomeText_11 rfl (lv_at hl 2 rfl) ?_
  refine lv_aload_n hx hb dVa_becomeText_12 rfl (lv_at hl 0 rfl) ?_
  refine va_get (D := (dC, dI)) (ci := 4) (v := .ref cr) (C := "MacroReckoner$Value") (T := TVa) (N := 6) hx hb hts inVa hown hK hP 0 rfl rfl 4 (by decide) (hts _ wt1_115) (fun _ h9 => h9) rfl dVa_becomeText_13 ?_
  refine lv_iconst (v := iI 0) hx hb dVa_becomeText_16 rfl ?_
  refine lv_iload_n hx hb dVa_becomeText_17 rfl (lv_at hl 3 rfl) ?_
  refine iv_copy hx hb (hml.trans hl.1.symm) hown (hts _ wt3_49) (hts _ wt1_217) (hts _ wt1_216) (hts _ wt1_9) hK hP hD hS 4 1 1 1 rfl rfl rfl rfl rfl (by decide) (Nat.le_of_ble_eq_true rfl) (by omega) (by decide) dVa_becomeText_18 (by omega) (by omega) (by omega) (by omega) (by omega) (by exact fun i h1 h2 => by have := hch i h1 h2; exact fit_char (by omega) (by omega)) (fun H locs hP hD hS => ?_)
  have hP : va_P (dC, dI) vwCl (wVa dA x w cr 1 0 0 (cpI D C s0 0 n0) 0 (wWh dA w g F9 u9 (wCh dA fr nn D []))) H := hP
  have hD : va_D A (wVa dA x w cr 1 0 0 (cpI D C s0 0 n0) 0 (wWh dA w g F9 u9 (wCh dA fr nn D []))) := hD
  refine lv_aload_n hx hb dVa_becomeText_21 rfl (lv_at hl 0 rfl) ?_
  refine lv_iload_n hx hb dVa_becomeText_22 rfl (lv_at hl 3 rfl) ?_
  refine va_put (D := (dC, dI)) (ci := 4) (v := .int (iI n0)) (ty := .int) (C := "MacroReckoner$Value") (T := TVa) (N := 6) hx hb hts inVa tyVa tyVa_ok nmVa hown hK hP hD hS 0 rfl rfl 5 (by decide) (hts _ wt1_118) (fun _ h9 => h9) rfl (by decide +kernel) rfl rfl (Nat.le_of_ble_eq_true rfl) dVa_becomeText_23 (fun H locs hP hD hS => ?_)
  have hP : va_P (dC, dI) vwCl (wVa dA x w cr 1 0 0 (cpI D C s0 0 n0) n0 (wWh dA w g F9 u9 (wCh dA fr nn D []))) H := hP
  have hD : va_D A (wVa dA x w cr 1 0 0 (cpI D C s0 0 n0) n0 (wWh dA w g F9 u9 (wCh dA fr nn D []))) := hD
  exact rt_v hx hb hr hlocks hK hS dVa_becomeText_26 (F9, u9, cpI D C s0 0 n0) hP hD (show WR F9 u9 0 ∧ ∀ j, 0 ≤ j → j < n0 → (cpI D C s0 0 n0) j = D (s0 + j) from by refine ⟨hq2, fun j a b => ?_⟩; show cpI D C s0 0 n0 j = D (s0 + j); rw [cp_in (by omega) (by omega)]; congr 1; omega)

theorem dVa_becomeNumeral_0 : decode prog_6_method_6_code 0 = .ok (.aload_n 0, 1) := by decide +kernel
theorem dVa_becomeNumeral_1 : decode prog_6_method_6_code 1 = .ok (.iconst 0, 1) := by decide +kernel
theorem dVa_becomeNumeral_2 : decode prog_6_method_6_code 2 = .ok (.invokevirtual 54, 3) := by decide +kernel
theorem dVa_becomeNumeral_5 : decode prog_6_method_6_code 5 = .ok (.iconst 0, 1) := by decide +kernel
theorem dVa_becomeNumeral_6 : decode prog_6_method_6_code 6 = .ok (.istore 4, 2) := by decide +kernel
theorem dVa_becomeNumeral_8 : decode prog_6_method_6_code 8 = .ok (.iconst 0, 1) := by decide +kernel
theorem dVa_becomeNumeral_9 : decode prog_6_method_6_code 9 = .ok (.istore 5, 2) := by decide +kernel
theorem dVa_becomeNumeral_11 : decode prog_6_method_6_code 11 = .ok (.iload_n 2, 1) := by decide +kernel
theorem dVa_becomeNumeral_12 : decode prog_6_method_6_code 12 = .ok (.istore 6, 2) := by decide +kernel
theorem dVa_becomeNumeral_14 : decode prog_6_method_6_code 14 = .ok (.iload 6, 2) := by decide +kernel
theorem dVa_becomeNumeral_16 : decode prog_6_method_6_code 16 = .ok (.iload_n 2, 1) := by decide +kernel
theorem dVa_becomeNumeral_17 : decode prog_6_method_6_code 17 = .ok (.iload_n 3, 1) := by decide +kernel
theorem dVa_becomeNumeral_18 : decode prog_6_method_6_code 18 = .ok (.iadd, 1) := by decide +kernel
theorem dVa_becomeNumeral_19 : decode prog_6_method_6_code 19 = .ok (.if_icmp .ge 74, 3) := by decide +kernel
theorem dVa_becomeNumeral_22 : decode prog_6_method_6_code 22 = .ok (.aload_n 1, 1) := by decide +kernel
theorem dVa_becomeNumeral_23 : decode prog_6_method_6_code 23 = .ok (.iload 6, 2) := by decide +kernel
theorem dVa_becomeNumeral_25 : decode prog_6_method_6_code 25 = .ok (.caload, 1) := by decide +kernel
theorem dVa_becomeNumeral_26 : decode prog_6_method_6_code 26 = .ok (.istore 7, 2) := by decide +kernel
theorem dVa_becomeNumeral_28 : decode prog_6_method_6_code 28 = .ok (.iload 7, 2) := by decide +kernel
theorem dVa_becomeNumeral_30 : decode prog_6_method_6_code 30 = .ok (.bipush 95, 2) := by decide +kernel
theorem dVa_becomeNumeral_32 : decode prog_6_method_6_code 32 = .ok (.if_icmp .ne 9, 3) := by decide +kernel
theorem dVa_becomeNumeral_35 : decode prog_6_method_6_code 35 = .ok (.iconst 1, 1) := by decide +kernel
theorem dVa_becomeNumeral_36 : decode prog_6_method_6_code 36 = .ok (.istore 4, 2) := by decide +kernel
theorem dVa_becomeNumeral_38 : decode prog_6_method_6_code 38 = .ok (.goto 49, 3) := by decide +kernel
theorem dVa_becomeNumeral_41 : decode prog_6_method_6_code 41 = .ok (.iload 7, 2) := by decide +kernel
theorem dVa_becomeNumeral_43 : decode prog_6_method_6_code 43 = .ok (.bipush 46, 2) := by decide +kernel
theorem dVa_becomeNumeral_45 : decode prog_6_method_6_code 45 = .ok (.if_icmp .ne 9, 3) := by decide +kernel
theorem dVa_becomeNumeral_48 : decode prog_6_method_6_code 48 = .ok (.iconst 1, 1) := by decide +kernel
theorem dVa_becomeNumeral_49 : decode prog_6_method_6_code 49 = .ok (.istore 5, 2) := by decide +kernel
theorem dVa_becomeNumeral_51 : decode prog_6_method_6_code 51 = .ok (.goto 36, 3) := by decide +kernel
theorem dVa_becomeNumeral_54 : decode prog_6_method_6_code 54 = .ok (.aload_n 0, 1) := by decide +kernel
theorem dVa_becomeNumeral_55 : decode prog_6_method_6_code 55 = .ok (.getfield 18, 3) := by decide +kernel
theorem dVa_becomeNumeral_58 : decode prog_6_method_6_code 58 = .ok (.bipush 10, 2) := by decide +kernel
theorem dVa_becomeNumeral_60 : decode prog_6_method_6_code 60 = .ok (.iload 7, 2) := by decide +kernel
theorem dVa_becomeNumeral_62 : decode prog_6_method_6_code 62 = .ok (.bipush 48, 2) := by decide +kernel
theorem dVa_becomeNumeral_64 : decode prog_6_method_6_code 64 = .ok (.isub, 1) := by decide +kernel
theorem dVa_becomeNumeral_65 : decode prog_6_method_6_code 65 = .ok (.invokevirtual 57, 3) := by decide +kernel
theorem dVa_becomeNumeral_68 : decode prog_6_method_6_code 68 = .ok (.aload_n 0, 1) := by decide +kernel
theorem dVa_becomeNumeral_69 : decode prog_6_method_6_code 69 = .ok (.dup, 1) := by decide +kernel
theorem dVa_becomeNumeral_70 : decode prog_6_method_6_code 70 = .ok (.getfield 25, 3) := by decide +kernel
theorem dVa_becomeNumeral_73 : decode prog_6_method_6_code 73 = .ok (.iload 5, 2) := by decide +kernel
theorem dVa_becomeNumeral_75 : decode prog_6_method_6_code 75 = .ok (.ifCond .eq 7, 3) := by decide +kernel
theorem dVa_becomeNumeral_78 : decode prog_6_method_6_code 78 = .ok (.iconst 1, 1) := by decide +kernel
theorem dVa_becomeNumeral_79 : decode prog_6_method_6_code 79 = .ok (.goto 4, 3) := by decide +kernel
theorem dVa_becomeNumeral_82 : decode prog_6_method_6_code 82 = .ok (.iconst 0, 1) := by decide +kernel
theorem dVa_becomeNumeral_83 : decode prog_6_method_6_code 83 = .ok (.iadd, 1) := by decide +kernel
theorem dVa_becomeNumeral_84 : decode prog_6_method_6_code 84 = .ok (.putfield 25, 3) := by decide +kernel
theorem dVa_becomeNumeral_87 : decode prog_6_method_6_code 87 = .ok (.iinc 6 1, 3) := by decide +kernel
theorem dVa_becomeNumeral_90 : decode prog_6_method_6_code 90 = .ok (.goto (-76), 3) := by decide +kernel
theorem dVa_becomeNumeral_93 : decode prog_6_method_6_code 93 = .ok (.aload_n 0, 1) := by decide +kernel
theorem dVa_becomeNumeral_94 : decode prog_6_method_6_code 94 = .ok (.iload 4, 2) := by decide +kernel
theorem dVa_becomeNumeral_96 : decode prog_6_method_6_code 96 = .ok (.ifCond .eq 17, 3) := by decide +kernel
theorem dVa_becomeNumeral_99 : decode prog_6_method_6_code 99 = .ok (.aload_n 0, 1) := by decide +kernel
theorem dVa_becomeNumeral_100 : decode prog_6_method_6_code 100 = .ok (.getfield 18, 3) := by decide +kernel
theorem dVa_becomeNumeral_103 : decode prog_6_method_6_code 103 = .ok (.invokevirtual 46, 3) := by decide +kernel
theorem dVa_becomeNumeral_106 : decode prog_6_method_6_code 106 = .ok (.ifCond .ne 7, 3) := by decide +kernel
theorem dVa_becomeNumeral_109 : decode prog_6_method_6_code 109 = .ok (.iconst 1, 1) := by decide +kernel
theorem dVa_becomeNumeral_110 : decode prog_6_method_6_code 110 = .ok (.goto 4, 3) := by decide +kernel
theorem dVa_becomeNumeral_113 : decode prog_6_method_6_code 113 = .ok (.iconst 0, 1) := by decide +kernel
theorem dVa_becomeNumeral_114 : decode prog_6_method_6_code 114 = .ok (.putfield 22, 3) := by decide +kernel
theorem dVa_becomeNumeral_117 : decode prog_6_method_6_code 117 = .ok (.return_, 1) := by decide +kernel
abbrev qVa_becomeNumeral (dC : Nat → ClassId) (dI : Nat → Nat → Nat) (dA : Nat → ClassId) (x : Nat) (w : Nat) (cr : Nat) (t : Int) (ng : Int) (sc : Int) (C : Int → Int) (ln : Int) (g : Nat) (F : Int → Int) (u : Int) (fr : Nat) (nn : Nat) (D : Int → Int) (s0 : Int) (n0 : Int) (A : Nat → Prop) : Array Value → State → Outcome → State → Prop := QV (dC, dI) vwCl (tyA dA) (fun (v_ : (Int → Int) × Int × Int × Int) => WR v_.1 v_.2.1 (nuN D s0 n0.toNat) ∧ v_.2.2.2 = nuS D s0 n0.toNat ∧ (v_.2.2.1 = 0 ∨ v_.2.2.1 = 1) ∧ (v_.2.2.1 = 1 ↔ nuM D s0 n0.toNat = 1 ∧ nuN D s0 n0.toNat ≠ 0)) (fun (v_ : (Int → Int) × Int × Int × Int) => wVa dA x w cr 0 v_.2.2.1 v_.2.2.2 C 0 (wWh dA w g v_.1 v_.2.1 (wCh dA fr nn D []))) A
abbrev rmVa_becomeNumeral : Room := { frames := 2, cells := 0, slots := 0, locals := 42 }
set_option maxRecDepth 100000 in
set_option maxHeartbeats 1000000 in
theorem cVa_becomeNumeral (l : Launch) (dC : Nat → ClassId) (dI : Nat → Nat → Nat) (dA : Nat → ClassId) (x : Nat) (w : Nat) (cr : Nat) (t : Int) (ng : Int) (sc : Int) (C : Int → Int) (ln : Int) (g : Nat) (F : Int → Int) (u : Int) (fr : Nat) (nn : Nat) (D : Int → Int) (s0 : Int) (n0 : Int) (hn : 0 ≤ s0 ∧ 0 ≤ n0 ∧ n0 ≤ 100 ∧ s0 + n0 ≤ nn ∧ nn ≤ 100) (hok : nuOK D s0 n0) (sz : Nat) : Met l yVa_becomeNumeral wsVa_becomeNumeral rmVa_becomeNumeral (PC (dC, dI) vwCl (tyA dA) XN [.ref x, .ref fr, .int (iI s0), .int (iI n0)] (wVa dA x w cr t ng sc C ln (wWh dA w g F u (wCh dA fr nn D []))) sz) (qVa_becomeNumeral dC dI dA x w cr t ng sc C ln g F u fr nn D s0 n0 (va_A (wVa dA x w cr t ng sc C ln (wWh dA w g F u (wCh dA fr nn D []))) sz)) 0 0 (va_A (wVa dA x w cr t ng sc C ln (wWh dA w g F u (wCh dA fr nn D []))) sz) := by
  refine met_of (cc := prog_6_method_6_code) (maxL := 8) (ret := none) (Qc := qVa_becomeNumeral dC dI dA x w cr t ng sc C ln g F u fr nn D s0 n0) XN_ok (by decide) rfl (Nat.le_of_ble_eq_true rfl) ?_
  intro p e s m below meth c ls A hx hb hr hml hown hts hlocks hnm hK hP hD hA hX hS hl
  have hl : lv_has ls 8 [(0, .ref x), (1, .ref fr), (2, .int (iI s0)), (3, .int (iI n0))] := hl
  have hown : s.vm.findClass "MacroReckoner$Value" = some m.cls := hown
  obtain ⟨H, hH⟩ : ∃ H : Heap, H = s.heap := ⟨_, rfl⟩
  obtain ⟨locs, hlo⟩ : ∃ L : List Loc, L = [] := ⟨_, rfl⟩
  have hP : va_P (dC, dI) vwCl (wVa dA x w cr t ng sc C ln (wWh dA w g F u (wCh dA fr nn D []))) H := hH ▸ hP
  have hS : va_S A s.heap H locs := by rw [hH, hlo]; exact hS
  suffices hgo : W p l e rmVa_becomeNumeral s m [.ref x, .ref fr, .int (iI s0), .int (iI n0)].toArray below meth c H locs 0 0 (MQ below (qVa_becomeNumeral dC dI dA x w cr t ng sc C ln g F u fr nn D s0 n0 A) [.ref x, .ref fr, .int (iI s0), .int (iI n0)].toArray s 0 0 A) (F0 m 0 ls []) by rw [hH, hlo] at hgo; exact hgo
  clear hH hlo
  refine lv_aload_n hx hb dVa_becomeNumeral_0 rfl (lv_at hl 0 rfl) ?_
  refine lv_iconst (v := iI 0) hx hb dVa_becomeNumeral_1 rfl ?_
  refine cv_v (va_runV (C := "MacroReckoner$Value") (As := [.int (iI 0)]) (rest := []) ⟨hx, hb, hml, hown, hts⟩ (cVa_becomeCount l dC dI dA x w cr t ng sc C ln g F u 0 (by omega) H.size) (cwV 1 hts (gdV wt3_9 wt3_10 wt3_11 wt1_4 wt3_12) rfl rfl rfl ⟨rfl, by decide, by decide, by decide +kernel⟩ ⟨by decide, by decide⟩) (preV (q := ("MacroReckoner$Value", TVa, 6)) hK hP hD hS hA XN_ok trivial [0, 1, 2, 3] rfl rfl 0 rfl rfl) rfl rfl hl.1 rfl (lv_room (Nat.le_of_ble_eq_true rfl)) dVa_becomeNumeral_2 ⟨Nat.zero_le _, Nat.zero_le _⟩) hP hD hS hA [0, 1, 2, 3] [4] rfl (fun v_ => wVa dA x w cr 0 0 0 C 0 (wWh dA w g v_.1 v_.2 (wCh dA fr nn D []))) (fun _ => rfl) (wCh dA fr nn D []) rfl (fun _ => rfl) [x, cr, w, g, fr] rfl (fun _ => rfl) (fun _ => rfl) (fun u_ H locs hq2 hP hD hS => ?_)
  obtain ⟨F8, u8⟩ := u_
  have hP : va_P (dC, dI) vwCl (wVa dA x w cr 0 0 0 C 0 (wWh dA w g F8 u8 (wCh dA fr nn D []))) H := hP
  have hD : va_D A (wVa dA x w cr 0 0 0 C 0 (wWh dA w g F8 u8 (wCh dA fr nn D []))) := hD
  have hq2 : WR F8 u8 0 := hq2
  refine lv_iconst (v := iI 0) hx hb dVa_becomeNumeral_5 rfl ?_
  refine lv_istore (lv' := [(4, .int (iI 0)), (0, .ref x), (1, .ref fr), (2, .int (iI s0)), (3, .int (iI n0))]) hx hb dVa_becomeNumeral_6 hl (by decide) rfl (fun ls hl => ?_)
  refine lv_iconst (v := iI 0) hx hb dVa_becomeNumeral_8 rfl ?_
  refine lv_istore (lv' := [(5, .int (iI 0)), (4, .int (iI 0)), (0, .ref x), (1, .ref fr), (2, .int (iI s0)), (3, .int (iI n0))]) hx hb dVa_becomeNumeral_9 hl (by decide) rfl (fun ls hl => ?_)
  refine lv_iload_n hx hb dVa_becomeNumeral_11 rfl (lv_at hl 4 rfl) ?_
  refine lv_istore (lv' := [(6, .int (iI s0)), (5, .int (iI 0)), (4, .int (iI 0)), (0, .ref x), (1, .ref fr), (2, .int (iI s0)), (3, .int (iI n0))]) hx hb dVa_becomeNumeral_12 hl (by decide) rfl (fun ls hl => ?_)
  have L14 : ∀ (n : Nat) (F9 : Int → Int) (u9 : Int) (s9 : Int) (bz : Int) (bp : Int) (i : Int) (H : Heap) (locs : List Loc) (ls : Array Slot), (s0 ≤ i ∧ i ≤ s0 + n0) → (WR F9 u9 (nuN D s0 (i - s0).toNat)) → (s9 = nuS D s0 (i - s0).toNat) → (bp = nuP D s0 (i - s0).toNat) → (bz = nuM D s0 (i - s0).toNat) → (s0 + n0 - i).toNat < n → va_P (dC, dI) vwCl (wVa dA x w cr 0 0 s9 C 0 (wWh dA w g F9 u9 (wCh dA fr nn D []))) H → va_D A (wVa dA x w cr 0 0 s9 C 0 (wWh dA w g F9 u9 (wCh dA fr nn D []))) → va_S A s.heap H locs → lv_has ls 8 [(6, .int (iI i)), (5, .int (iI bp)), (4, .int (iI bz)), (0, .ref x), (1, .ref fr), (2, .int (iI s0)), (3, .int (iI n0))] → W p l e rmVa_becomeNumeral s m [.ref x, .ref fr, .int (iI s0), .int (iI n0)].toArray below meth c H locs 0 0 (MQ below (qVa_becomeNumeral dC dI dA x w cr t ng sc C ln g F u fr nn D s0 n0 A) [.ref x, .ref fr, .int (iI s0), .int (iI n0)].toArray s 0 0 A) (F0 m 14 ls []) := by
    intro n
    induction n with
    | zero => intro F9 u9 s9 bz bp i H locs ls hi hJW hJs hJp hJm hn; omega
    | succ n ih =>
      intro F9 u9 s9 bz bp i H locs ls hi hJW hJs hJp hJm hn hP hD hS hl
      have hbp := nuP_b (D := D) (p := s0) (i - s0).toNat
      have hbm := nuM_b (D := D) (p := s0) (i - s0).toNat
      have hbs := nuS_b (D := D) (p := s0) (i - s0).toNat
      have ih14 := ih
      refine lv_iload hx hb dVa_becomeNumeral_14 (lv_at hl 0 rfl) ?_
      refine lv_iload_n hx hb dVa_becomeNumeral_16 rfl (lv_at hl 5 rfl) ?_
      refine lv_iload_n hx hb dVa_becomeNumeral_17 rfl (lv_at hl 6 rfl) ?_
      refine iv_iadd hx hb dVa_becomeNumeral_18 ?_
      refine iv_icmp_ge (tgt := 93) hx hb dVa_becomeNumeral_19 (by decide) ⟨by omega, by omega⟩ ⟨by omega, by omega⟩ (fun hc19 => ?_) (fun hc19 => ?_)
      · have hie : i - s0 = n0 := by omega
        rw [hie] at hJW hJs hJm hbm
        refine lv_aload_n hx hb dVa_becomeNumeral_93 rfl (lv_at hl 3 rfl) ?_
        refine lv_iload hx hb dVa_becomeNumeral_94 (lv_at hl 2 rfl) ?_
        refine iv_if_eq (tgt := 113) hx hb dVa_becomeNumeral_96 (by decide) ⟨by omega, by omega⟩ (fun hc96 => ?_) (fun hc96 => ?_)
        · refine lv_iconst (v := iI 0) hx hb dVa_becomeNumeral_113 rfl ?_
          refine va_put (D := (dC, dI)) (ci := 4) (v := .int (iI 0)) (ty := .boolean) (C := "MacroReckoner$Value") (T := TVa) (N := 6) hx hb hts inVa tyVa tyVa_ok nmVa hown hK hP hD hS 0 rfl rfl 2 (by decide) (hts _ wt1_107) (fun _ h9 => h9) rfl (by decide +kernel) (nrw_bool (by omega)) (fit_bool (by omega)) (Nat.le_of_ble_eq_true rfl) dVa_becomeNumeral_114 (fun H locs hP hD hS => ?_)
          have hP : va_P (dC, dI) vwCl (wVa dA x w cr 0 0 s9 C 0 (wWh dA w g F9 u9 (wCh dA fr nn D []))) H := hP
          have hD : va_D A (wVa dA x w cr 0 0 s9 C 0 (wWh dA w g F9 u9 (wCh dA fr nn D []))) := hD
          exact rt_v hx hb hr hlocks hK hS dVa_becomeNumeral_117 (F9, u9, 0, s9) hP hD (show WR F9 u9 (nuN D s0 n0.toNat) ∧ s9 = nuS D s0 n0.toNat ∧ (0 = 0 ∨ 0 = 1) ∧ (0 = 1 ↔ nuM D s0 n0.toNat = 1 ∧ nuN D s0 n0.toNat ≠ 0) from by refine ⟨hJW, hJs, ?_⟩; omega)
        · refine lv_aload_n hx hb dVa_becomeNumeral_99 rfl (lv_at hl 3 rfl) ?_
          refine va_get (D := (dC, dI)) (ci := 4) (v := .ref w) (C := "MacroReckoner$Value") (T := TVa) (N := 6) hx hb hts inVa hown hK hP 0 rfl rfl 1 (by decide) (hts _ wt1_103) (fun _ h9 => h9) rfl dVa_becomeNumeral_100 ?_
          refine cv_i (va_runV (C := "MacroReckoner$Whole") (As := []) (rest := [.ref x]) ⟨hx, hb, hml, hown, hts⟩ (cWh_isZero l dC dI dA w g F9 u9 (nuN D s0 n0.toNat) (by exact hJW) H.size) (cwV 0 hts (gdV wt3_22 wt3_23 wt3_24 wt1_5 wt3_25) rfl rfl rfl ⟨rfl, by decide, by decide, by decide +kernel⟩ ⟨by decide, by decide⟩) (preV (q := ("MacroReckoner$Whole", TWh, 2)) hK hP hD hS hA XN_ok trivial [2, 3] rfl rfl 0 rfl rfl) rfl rfl hl.1 rfl (lv_room (Nat.le_of_ble_eq_true rfl)) dVa_becomeNumeral_103 ⟨Nat.zero_le _, Nat.zero_le _⟩) hP hD hS hA [2, 3] [0, 1, 4] rfl (fun v_ => wVa dA x w cr 0 0 s9 C 0 (wWh dA w g F9 u9 (wCh dA fr nn D []))) (fun _ => rfl) (wVa dA x w cr 0 0 s9 C 0 (wCh dA fr nn D [])) rfl (fun _ => rfl) [x, cr, w, g, fr] rfl (fun _ => rfl) (fun _ => rfl) (fun r103 u_ H locs hq103 hP hD hS => ?_)
          have hP : va_P (dC, dI) vwCl (wVa dA x w cr 0 0 s9 C 0 (wWh dA w g F9 u9 (wCh dA fr nn D []))) H := hP
          have hD : va_D A (wVa dA x w cr 0 0 s9 C 0 (wWh dA w g F9 u9 (wCh dA fr nn D []))) := hD
          have hq103 : (r103 = 1 ∧ (nuN D s0 n0.toNat) = 0) ∨ (r103 = 0 ∧ (nuN D s0 n0.toNat) ≠ 0) := hq103
          refine iv_if_ne (tgt := 113) hx hb dVa_becomeNumeral_106 (by decide) ⟨by omega, by omega⟩ (fun hc106 => ?_) (fun hc106 => ?_)
          · refine lv_iconst (v := iI 0) hx hb dVa_becomeNumeral_113 rfl ?_
            refine va_put (D := (dC, dI)) (ci := 4) (v := .int (iI 0)) (ty := .boolean) (C := "MacroReckoner$Value") (T := TVa) (N := 6) hx hb hts inVa tyVa tyVa_ok nmVa hown hK hP hD hS 0 rfl rfl 2 (by decide) (hts _ wt1_107) (fun _ h9 => h9) rfl (by decide +kernel) (nrw_bool (by omega)) (fit_bool (by omega)) (Nat.le_of_ble_eq_true rfl) dVa_becomeNumeral_114 (fun H locs hP hD hS => ?_)
            have hP : va_P (dC, dI) vwCl (wVa dA x w cr 0 0 s9 C 0 (wWh dA w g F9 u9 (wCh dA fr nn D []))) H := hP
            have hD : va_D A (wVa dA x w cr 0 0 s9 C 0 (wWh dA w g F9 u9 (wCh dA fr nn D []))) := hD
            exact rt_v hx hb hr hlocks hK hS dVa_becomeNumeral_117 (F9, u9, 0, s9) hP hD (show WR F9 u9 (nuN D s0 n0.toNat) ∧ s9 = nuS D s0 n0.toNat ∧ (0 = 0 ∨ 0 = 1) ∧ (0 = 1 ↔ nuM D s0 n0.toNat = 1 ∧ nuN D s0 n0.toNat ≠ 0) from by refine ⟨hJW, hJs, ?_⟩; omega)
          · refine lv_iconst (v := iI 1) hx hb dVa_becomeNumeral_109 rfl ?_
            refine lv_goto (tgt := 114) hx hb dVa_becomeNumeral_110 (by decide) ?_
            refine va_put (D := (dC, dI)) (ci := 4) (v := .int (iI 1)) (ty := .boolean) (C := "MacroReckoner$Value") (T := TVa) (N := 6) hx hb hts inVa tyVa tyVa_ok nmVa hown hK hP hD hS 0 rfl rfl 2 (by decide) (hts _ wt1_107) (fun _ h9 => h9) rfl (by decide +kernel) (nrw_bool (by omega)) (fit_bool (by omega)) (Nat.le_of_ble_eq_true rfl) dVa_becomeNumeral_114 (fun H locs hP hD hS => ?_)
            have hP : va_P (dC, dI) vwCl (wVa dA x w cr 0 1 s9 C 0 (wWh dA w g F9 u9 (wCh dA fr nn D []))) H := hP
            have hD : va_D A (wVa dA x w cr 0 1 s9 C 0 (wWh dA w g F9 u9 (wCh dA fr nn D []))) := hD
            exact rt_v hx hb hr hlocks hK hS dVa_becomeNumeral_117 (F9, u9, 1, s9) hP hD (show WR F9 u9 (nuN D s0 n0.toNat) ∧ s9 = nuS D s0 n0.toNat ∧ (1 = 0 ∨ 1 = 1) ∧ (1 = 1 ↔ nuM D s0 n0.toNat = 1 ∧ nuN D s0 n0.toNat ≠ 0) from by refine ⟨hJW, hJs, ?_⟩; omega)
      · have hci := hok (i - s0) (by omega) (by omega)
        rw [show s0 + (i - s0) = i by omega] at hci
        refine lv_aload_n hx hb dVa_becomeNumeral_22 rfl (lv_at hl 4 rfl) ?_
        refine lv_iload hx hb dVa_becomeNumeral_23 (lv_at hl 0 rfl) ?_
        refine iv_cald hx hb hK hP 4 1 rfl rfl (by omega) dVa_becomeNumeral_25 (by omega) (by omega) ?_
        refine lv_istore (lv' := [(7, .int (iI (D i))), (6, .int (iI i)), (5, .int (iI bp)), (4, .int (iI bz)), (0, .ref x), (1, .ref fr), (2, .int (iI s0)), (3, .int (iI n0))]) hx hb dVa_becomeNumeral_26 hl (by decide) rfl (fun ls hl => ?_)
        refine lv_iload hx hb dVa_becomeNumeral_28 (lv_at hl 0 rfl) ?_
        refine lv_bipush (v := iI 95) hx hb dVa_becomeNumeral_30 (by decide) ?_
        refine iv_icmp_ne (tgt := 41) hx hb dVa_becomeNumeral_32 (by decide) ⟨by omega, by omega⟩ ⟨by decide, by decide⟩ (fun hc32 => ?_) (fun hc32 => ?_)
        · refine lv_iload hx hb dVa_becomeNumeral_41 (lv_at hl 0 rfl) ?_
          refine lv_bipush (v := iI 46) hx hb dVa_becomeNumeral_43 (by decide) ?_
          refine iv_icmp_ne (tgt := 54) hx hb dVa_becomeNumeral_45 (by decide) ⟨by omega, by omega⟩ ⟨by decide, by decide⟩ (fun hc45 => ?_) (fun hc45 => ?_)
          · have hNb := nuN_b hok (i - s0) (by omega) (by omega)
            have hNm := PW_mono (b := 10) (i := i - s0) (j := 101) (by decide) (by omega) (by omega)
            have hNk : PW 10 101 * 10 + 9 < PW 1000000000 32 := by decide
            refine lv_aload_n hx hb dVa_becomeNumeral_54 rfl (lv_at hl 4 rfl) ?_
            refine va_get (D := (dC, dI)) (ci := 4) (v := .ref w) (C := "MacroReckoner$Value") (T := TVa) (N := 6) hx hb hts inVa hown hK hP 0 rfl rfl 1 (by decide) (hts _ wt1_103) (fun _ h9 => h9) rfl dVa_becomeNumeral_55 ?_
            refine lv_bipush (v := iI 10) hx hb dVa_becomeNumeral_58 (by decide) ?_
            refine lv_iload hx hb dVa_becomeNumeral_60 (lv_at hl 0 rfl) ?_
            refine lv_bipush (v := iI 48) hx hb dVa_becomeNumeral_62 (by decide) ?_
            refine iv_isub hx hb dVa_becomeNumeral_64 ?_
            refine cv_v (va_runV (C := "MacroReckoner$Whole") (As := [.int (iI 10), .int (iI ((D i) - 48))]) (rest := []) ⟨hx, hb, hml, hown, hts⟩ (cWh_timesSmallPlus l dC dI dA w g F9 u9 (nuN D s0 (i - s0).toNat) 10 ((D i) - 48) (by exact hJW) (by omega) (by omega) (by omega) H.size) (cwV 2 hts (gdV wt3_17 wt3_18 wt3_19 wt1_5 wt3_20) rfl rfl rfl ⟨rfl, by decide, by decide, by decide +kernel⟩ ⟨by decide, by decide⟩) (preV (q := ("MacroReckoner$Whole", TWh, 2)) hK hP hD hS hA XN_ok trivial [2, 3] rfl rfl 0 rfl rfl) rfl rfl hl.1 rfl (lv_room (Nat.le_of_ble_eq_true rfl)) dVa_becomeNumeral_65 ⟨Nat.zero_le _, Nat.zero_le _⟩) hP hD hS hA [2, 3] [0, 1, 4] rfl (fun v_ => wVa dA x w cr 0 0 s9 C 0 (wWh dA w g v_.1 v_.2 (wCh dA fr nn D []))) (fun _ => rfl) (wVa dA x w cr 0 0 s9 C 0 (wCh dA fr nn D [])) rfl (fun _ => rfl) [x, cr, w, g, fr] rfl (fun _ => rfl) (fun _ => rfl) (fun u_ H locs hq65 hP hD hS => ?_)
            obtain ⟨F7, u7⟩ := u_
            have hP : va_P (dC, dI) vwCl (wVa dA x w cr 0 0 s9 C 0 (wWh dA w g F7 u7 (wCh dA fr nn D []))) H := hP
            have hD : va_D A (wVa dA x w cr 0 0 s9 C 0 (wWh dA w g F7 u7 (wCh dA fr nn D []))) := hD
            have hq65 : WR F7 u7 ((nuN D s0 (i - s0).toNat) * 10 + ((D i) - 48)) := hq65
            refine lv_aload_n hx hb dVa_becomeNumeral_68 rfl (lv_at hl 4 rfl) ?_
            refine lv_dup hx hb dVa_becomeNumeral_69 rfl ?_
            refine va_get (D := (dC, dI)) (ci := 4) (v := .int (iI s9)) (C := "MacroReckoner$Value") (T := TVa) (N := 6) hx hb hts inVa hown hK hP 0 rfl rfl 3 (by decide) (hts _ wt1_111) (fun _ h9 => h9) rfl dVa_becomeNumeral_70 ?_
            refine lv_iload hx hb dVa_becomeNumeral_73 (lv_at hl 2 rfl) ?_
            refine iv_if_eq (tgt := 82) hx hb dVa_becomeNumeral_75 (by decide) ⟨by omega, by omega⟩ (fun hc75 => ?_) (fun hc75 => ?_)
            · refine lv_iconst (v := iI 0) hx hb dVa_becomeNumeral_82 rfl ?_
              refine iv_iadd hx hb dVa_becomeNumeral_83 ?_
              refine va_put (D := (dC, dI)) (ci := 4) (v := .int (iI (s9 + 0))) (ty := .int) (C := "MacroReckoner$Value") (T := TVa) (N := 6) hx hb hts inVa tyVa tyVa_ok nmVa hown hK hP hD hS 0 rfl rfl 3 (by decide) (hts _ wt1_111) (fun _ h9 => h9) rfl (by decide +kernel) rfl rfl (Nat.le_of_ble_eq_true rfl) dVa_becomeNumeral_84 (fun H locs hP hD hS => ?_)
              have hP : va_P (dC, dI) vwCl (wVa dA x w cr 0 0 (s9 + 0) C 0 (wWh dA w g F7 u7 (wCh dA fr nn D []))) H := hP
              have hD : va_D A (wVa dA x w cr 0 0 (s9 + 0) C 0 (wWh dA w g F7 u7 (wCh dA fr nn D []))) := hD
              have hs1 := nuN_s (D := D) (p := s0) (i := i - s0) (by omega)
              have hs2 := nuS_s (D := D) (p := s0) (i := i - s0) (by omega)
              have hs3 := nuP_s (D := D) (p := s0) (i := i - s0) (by omega)
              have hs4 := nuM_s (D := D) (p := s0) (i := i - s0) (by omega)
              rw [show s0 + (i - s0) = i by omega, show i - s0 + 1 = i + 1 - s0 by omega] at hs1 hs2 hs3 hs4
              refine lv_iinc (k := 1) (lv' := [(6, .int (iI (i + 1))), (7, .int (iI (D i))), (5, .int (iI bp)), (4, .int (iI bz)), (0, .ref x), (1, .ref fr), (2, .int (iI s0)), (3, .int (iI n0))]) (v := iI (i + 1)) hx hb dVa_becomeNumeral_87 hl rfl (iI_add _ _).symm (by decide) rfl (fun ls hl => ?_)
              refine lv_goto (tgt := 14) hx hb dVa_becomeNumeral_90 (by decide) ?_
              exact ih14 F7 u7 (s9 + 0) bz bp (i + 1) H locs ls (by omega) (by first | (rw [hs1, if_pos (by omega)]; exact hJW) | (rw [hs1, if_neg (by omega)]; exact hq65)) (by first | (rw [hs2, if_pos (by omega)]; exact hJs) | (rw [hs2, if_neg (by omega)]; omega)) (by first | (rw [hs3, if_pos (by omega)]; done) | (rw [hs3, if_neg (by omega)]; exact hJp)) (by first | (rw [hs4, if_pos (by omega)]; done) | (rw [hs4, if_neg (by omega)]; exact hJm)) (by omega) hP hD hS (lv_sub hl [0, 2, 3, 4, 5, 6, 7] rfl)
            · refine lv_iconst (v := iI 1) hx hb dVa_becomeNumeral_78 rfl ?_
              refine lv_goto (tgt := 83) hx hb dVa_becomeNumeral_79 (by decide) ?_
              refine iv_iadd hx hb dVa_becomeNumeral_83 ?_
              refine va_put (D := (dC, dI)) (ci := 4) (v := .int (iI (s9 + 1))) (ty := .int) (C := "MacroReckoner$Value") (T := TVa) (N := 6) hx hb hts inVa tyVa tyVa_ok nmVa hown hK hP hD hS 0 rfl rfl 3 (by decide) (hts _ wt1_111) (fun _ h9 => h9) rfl (by decide +kernel) rfl rfl (Nat.le_of_ble_eq_true rfl) dVa_becomeNumeral_84 (fun H locs hP hD hS => ?_)
              have hP : va_P (dC, dI) vwCl (wVa dA x w cr 0 0 (s9 + 1) C 0 (wWh dA w g F7 u7 (wCh dA fr nn D []))) H := hP
              have hD : va_D A (wVa dA x w cr 0 0 (s9 + 1) C 0 (wWh dA w g F7 u7 (wCh dA fr nn D []))) := hD
              have hs1 := nuN_s (D := D) (p := s0) (i := i - s0) (by omega)
              have hs2 := nuS_s (D := D) (p := s0) (i := i - s0) (by omega)
              have hs3 := nuP_s (D := D) (p := s0) (i := i - s0) (by omega)
              have hs4 := nuM_s (D := D) (p := s0) (i := i - s0) (by omega)
              rw [show s0 + (i - s0) = i by omega, show i - s0 + 1 = i + 1 - s0 by omega] at hs1 hs2 hs3 hs4
              refine lv_iinc (k := 1) (lv' := [(6, .int (iI (i + 1))), (7, .int (iI (D i))), (5, .int (iI bp)), (4, .int (iI bz)), (0, .ref x), (1, .ref fr), (2, .int (iI s0)), (3, .int (iI n0))]) (v := iI (i + 1)) hx hb dVa_becomeNumeral_87 hl rfl (iI_add _ _).symm (by decide) rfl (fun ls hl => ?_)
              refine lv_goto (tgt := 14) hx hb dVa_becomeNumeral_90 (by decide) ?_
              exact ih14 F7 u7 (s9 + 1) bz bp (i + 1) H locs ls (by omega) (by first | (rw [hs1, if_pos (by omega)]; exact hJW) | (rw [hs1, if_neg (by omega)]; exact hq65)) (by first | (rw [hs2, if_pos (by omega)]; exact hJs) | (rw [hs2, if_neg (by omega)]; omega)) (by first | (rw [hs3, if_pos (by omega)]; done) | (rw [hs3, if_neg (by omega)]; exact hJp)) (by first | (rw [hs4, if_pos (by omega)]; done) | (rw [hs4, if_neg (by omega)]; exact hJm)) (by omega) hP hD hS (lv_sub hl [0, 2, 3, 4, 5, 6, 7] rfl)
          · refine lv_iconst (v := iI 1) hx hb dVa_becomeNumeral_48 rfl ?_
            refine lv_istore (lv' := [(5, .int (iI 1)), (7, .int (iI (D i))), (6, .int (iI i)), (4, .int (iI bz)), (0, .ref x), (1, .ref fr), (2, .int (iI s0)), (3, .int (iI n0))]) hx hb dVa_becomeNumeral_49 hl (by decide) rfl (fun ls hl => ?_)
            refine lv_goto (tgt := 87) hx hb dVa_becomeNumeral_51 (by decide) ?_
            have hs1 := nuN_s (D := D) (p := s0) (i := i - s0) (by omega)
            have hs2 := nuS_s (D := D) (p := s0) (i := i - s0) (by omega)
            have hs3 := nuP_s (D := D) (p := s0) (i := i - s0) (by omega)
            have hs4 := nuM_s (D := D) (p := s0) (i := i - s0) (by omega)
            rw [show s0 + (i - s0) = i by omega, show i - s0 + 1 = i + 1 - s0 by omega] at hs1 hs2 hs3 hs4
            refine lv_iinc (k := 2) (lv' := [(6, .int (iI (i + 1))), (5, .int (iI 1)), (7, .int (iI (D i))), (4, .int (iI bz)), (0, .ref x), (1, .ref fr), (2, .int (iI s0)), (3, .int (iI n0))]) (v := iI (i + 1)) hx hb dVa_becomeNumeral_87 hl rfl (iI_add _ _).symm (by decide) rfl (fun ls hl => ?_)
            refine lv_goto (tgt := 14) hx hb dVa_becomeNumeral_90 (by decide) ?_
            exact ih14 F9 u9 s9 bz 1 (i + 1) H locs ls (by omega) (by first | (rw [hs1, if_pos (by omega)]; exact hJW) | (rw [hs1, if_neg (by omega)]; exact hq65)) (by first | (rw [hs2, if_pos (by omega)]; exact hJs) | (rw [hs2, if_neg (by omega)]; omega)) (by first | (rw [hs3, if_pos (by omega)]; done) | (rw [hs3, if_neg (by omega)]; exact hJp)) (by first | (rw [hs4, if_pos (by omega)]; done) | (rw [hs4, if_neg (by omega)]; exact hJm)) (by omega) hP hD hS (lv_sub hl [0, 1, 3, 4, 5, 6, 7] rfl)
        · refine lv_iconst (v := iI 1) hx hb dVa_becomeNumeral_35 rfl ?_
          refine lv_istore (lv' := [(4, .int (iI 1)), (7, .int (iI (D i))), (6, .int (iI i)), (5, .int (iI bp)), (0, .ref x), (1, .ref fr), (2, .int (iI s0)), (3, .int (iI n0))]) hx hb dVa_becomeNumeral_36 hl (by decide) rfl (fun ls hl => ?_)
          refine lv_goto (tgt := 87) hx hb dVa_becomeNumeral_38 (by decide) ?_
          have hs1 := nuN_s (D := D) (p := s0) (i := i - s0) (by omega)
          have hs2 := nuS_s (D := D) (p := s0) (i := i - s0) (by omega)
          have hs3 := nuP_s (D := D) (p := s0) (i := i - s0) (by omega)
          have hs4 := nuM_s (D := D) (p := s0) (i := i - s0) (by omega)
          rw [show s0 + (i - s0) = i by omega, show i - s0 + 1 = i + 1 - s0 by omega] at hs1 hs2 hs3 hs4
          refine lv_iinc (k := 2) (lv' := [(6, .int (iI (i + 1))), (4, .int (iI 1)), (7, .int (iI (D i))), (5, .int (iI bp)), (0, .ref x), (1, .ref fr), (2, .int (iI s0)), (3, .int (iI n0))]) (v := iI (i + 1)) hx hb dVa_becomeNumeral_87 hl rfl (iI_add _ _).symm (by decide) rfl (fun ls hl => ?_)
          refine lv_goto (tgt := 14) hx hb dVa_becomeNumeral_90 (by decide) ?_
          exact ih14 F9 u9 s9 1 bp (i + 1) H locs ls (by omega) (by first | (rw [hs1, if_pos (by omega)]; exact hJW) | (rw [hs1, if_neg (by omega)]; exact hq65)) (by first | (rw [hs2, if_pos (by omega)]; exact hJs) | (rw [hs2, if_neg (by omega)]; omega)) (by first | (rw [hs3, if_pos (by omega)]; done) | (rw [hs3, if_neg (by omega)]; exact hJp)) (by first | (rw [hs4, if_pos (by omega)]; done) | (rw [hs4, if_neg (by omega)]; exact hJm)) (by omega) hP hD hS (lv_sub hl [0, 3, 1, 4, 5, 6, 7] rfl)
  exact L14 _ F8 u8 0 0 0 s0 H locs ls (by omega) (by rw [show s0 - s0 = 0 by omega]; exact hq2) (by rw [show s0 - s0 = 0 by omega]; rfl) (by rw [show s0 - s0 = 0 by omega]; rfl) (by rw [show s0 - s0 = 0 by omega]; rfl) (Nat.lt_succ_self _) hP hD hS (lv_sub hl [0, 1, 2, 3, 4, 5, 6] rfl)

theorem dVa_fits_0 : decode prog_6_method_7_code 0 = .ok (.aload_n 0, 1) := by decide +kernel
theorem dVa_fits_1 : decode prog_6_method_7_code 1 = .ok (.getfield 18, 3) := by decide +kernel
theorem dVa_fits_4 : decode prog_6_method_7_code 4 = .ok (.invokevirtual 61, 3) := by decide +kernel
theorem dVa_fits_7 : decode prog_6_method_7_code 7 = .ok (.bipush 60, 2) := by decide +kernel
theorem dVa_fits_9 : decode prog_6_method_7_code 9 = .ok (.if_icmp .gt 16, 3) := by decide +kernel
theorem dVa_fits_12 : decode prog_6_method_7_code 12 = .ok (.aload_n 0, 1) := by decide +kernel
theorem dVa_fits_13 : decode prog_6_method_7_code 13 = .ok (.getfield 25, 3) := by decide +kernel
theorem dVa_fits_16 : decode prog_6_method_7_code 16 = .ok (.bipush 40, 2) := by decide +kernel
theorem dVa_fits_18 : decode prog_6_method_7_code 18 = .ok (.if_icmp .gt 7, 3) := by decide +kernel
theorem dVa_fits_21 : decode prog_6_method_7_code 21 = .ok (.iconst 1, 1) := by decide +kernel
theorem dVa_fits_22 : decode prog_6_method_7_code 22 = .ok (.goto 4, 3) := by decide +kernel
theorem dVa_fits_25 : decode prog_6_method_7_code 25 = .ok (.iconst 0, 1) := by decide +kernel
theorem dVa_fits_26 : decode prog_6_method_7_code 26 = .ok (.ireturn, 1) := by decide +kernel
abbrev qVa_fits (dC : Nat → ClassId) (dI : Nat → Nat → Nat) (dA : Nat → ClassId) (dS : Nat → Nat) (x : Nat) (w : Nat) (cr : Nat) (t : Int) (ng : Int) (sc : Int) (C : Int → Int) (ln : Int) (g : Nat) (F : Int → Int) (u : Int) (N : Int) (A : Nat → Prop) : Array Value → State → Outcome → State → Prop := QI (dC, dI) vwCl (tyA dA) (fun (r : Int) (v_ : Unit) => (r = 1 ∧ N < PW 10 60 ∧ sc ≤ 40) ∨ (r = 0 ∧ (PW 10 60 ≤ N ∨ 40 < sc))) (fun (v_ : Unit) => wVa dA x w cr t ng sc C ln (wWh dA w g F u [])) A
abbrev rmVa_fits : Room := { frames := 1, cells := 0, slots := 0, locals := 23 }
set_option maxRecDepth 100000 in
set_option maxHeartbeats 1000000 in
theorem cVa_fits (l : Launch) (dC : Nat → ClassId) (dI : Nat → Nat → Nat) (dA : Nat → ClassId) (dS : Nat → Nat) (x : Nat) (w : Nat) (cr : Nat) (t : Int) (ng : Int) (sc : Int) (C : Int → Int) (ln : Int) (g : Nat) (F : Int → Int) (u : Int) (N : Int) (hW : WR F u N) (hsc : 0 ≤ sc ∧ sc ≤ 1000) (sz : Nat) : Met l yVa_fits wsVa_fits rmVa_fits (PC (dC, dI) vwCl (tyA dA) (XC dS) [.ref x] (wVa dA x w cr t ng sc C ln (wWh dA w g F u [])) sz) (qVa_fits dC dI dA dS x w cr t ng sc C ln g F u N (va_A (wVa dA x w cr t ng sc C ln (wWh dA w g F u [])) sz)) 0 0 (va_A (wVa dA x w cr t ng sc C ln (wWh dA w g F u [])) sz) := by
  refine met_of (cc := prog_6_method_7_code) (maxL := 1) (ret := (some .boolean)) (Qc := qVa_fits dC dI dA dS x w cr t ng sc C ln g F u N) (XC_ok dS) (by decide) rfl (Nat.le_of_ble_eq_true rfl) ?_
  intro p e s m below meth c ls A hx hb hr hml hown hts hlocks hnm hK hP hD hA hX hS hl
  have hl : lv_has ls 1 [(0, .ref x)] := hl
  have hown : s.vm.findClass "MacroReckoner$Value" = some m.cls := hown
  obtain ⟨H, hH⟩ : ∃ H : Heap, H = s.heap := ⟨_, rfl⟩
  obtain ⟨locs, hlo⟩ : ∃ L : List Loc, L = [] := ⟨_, rfl⟩
  have hP : va_P (dC, dI) vwCl (wVa dA x w cr t ng sc C ln (wWh dA w g F u [])) H := hH ▸ hP
  have hS : va_S A s.heap H locs := by rw [hH, hlo]; exact hS
  suffices hgo : W p l e rmVa_fits s m [.ref x].toArray below meth c H locs 0 0 (MQ below (qVa_fits dC dI dA dS x w cr t ng sc C ln g F u N A) [.ref x].toArray s 0 0 A) (F0 m 0 ls []) by rw [hH, hlo] at hgo; exact hgo
  clear hH hlo
  refine lv_aload_n hx hb dVa_fits_0 rfl (lv_at hl 0 rfl) ?_
  refine va_get (D := (dC, dI)) (ci := 4) (v := .ref w) (C := "MacroReckoner$Value") (T := TVa) (N := 6) hx hb hts inVa hown hK hP 0 rfl rfl 1 (by decide) (hts _ wt1_103) (fun _ h9 => h9) rfl dVa_fits_1 ?_
  refine cv_i (va_runV (C := "MacroReckoner$Whole") (As := []) (rest := []) ⟨hx, hb, hml, hown, hts⟩ (cWh_size l dC dI dA dS w g F u N (by exact hW) H.size) (cwV 0 hts (gdV wt3_30 wt3_31 wt3_32 wt1_5 wt3_33) rfl rfl rfl ⟨rfl, by decide, by decide, by decide +kernel⟩ ⟨by decide, by decide⟩) (preV (q := ("MacroReckoner$Whole", TWh, 2)) hK hP hD hS hA (XC_ok dS) hX [2, 3] rfl rfl 0 rfl rfl) rfl rfl hl.1 rfl (lv_room (Nat.le_of_ble_eq_true rfl)) dVa_fits_4 ⟨Nat.zero_le _, Nat.zero_le _⟩) hP hD hS hA [2, 3] [0, 1] rfl (fun v_ => wVa dA x w cr t ng sc C ln (wWh dA w g F u [])) (fun _ => rfl) (wVa dA x w cr t ng sc C ln []) rfl (fun _ => rfl) [x, cr, w, g] rfl (fun _ => rfl) (fun _ => rfl) (fun r4 u_ H locs hq4 hP hD hS => ?_)
  have hP : va_P (dC, dI) vwCl (wVa dA x w cr t ng sc C ln (wWh dA w g F u [])) H := hP
  have hD : va_D A (wVa dA x w cr t ng sc C ln (wWh dA w g F u [])) := hD
  have hq4 : DL N r4 := hq4
  have hDb := DL_le hq4 (show N < PW 10 (9 * 32) by rw [← PW_B (by decide)]; have := (WR_bd hW).2; have h2 := PW_mono (b := 1000000000) (i := u) (j := 32) (by decide) hW.1.1 hW.1.2; omega) (by decide)
  have hD0 := hq4.1
  refine lv_bipush (v := iI 60) hx hb dVa_fits_7 (by decide) ?_
  refine iv_icmp_gt (tgt := 25) hx hb dVa_fits_9 (by decide) ⟨by omega, by omega⟩ ⟨by decide, by decide⟩ (fun hc9 => ?_) (fun hc9 => ?_)
  · refine lv_iconst (v := iI 0) hx hb dVa_fits_25 rfl ?_
    exact rt_z hx hb hr hlocks hK hS dVa_fits_26 (nrw_bool (by omega)) () hP hD (show (0 = 1 ∧ N < PW 10 60 ∧ sc ≤ 40) ∨ (0 = 0 ∧ (PW 10 60 ≤ N ∨ 40 < sc)) from by first | exact Or.inl ⟨rfl, DL_lt hq4 (by omega), by omega⟩ | exact Or.inr ⟨rfl, Or.inr (by omega)⟩ | exact Or.inr ⟨rfl, Or.inl (Int.not_lt.mp fun z => by have := DL_le hq4 z (by decide); omega)⟩)
  · refine lv_aload_n hx hb dVa_fits_12 rfl (lv_at hl 0 rfl) ?_
    refine va_get (D := (dC, dI)) (ci := 4) (v := .int (iI sc)) (C := "MacroReckoner$Value") (T := TVa) (N := 6) hx hb hts inVa hown hK hP 0 rfl rfl 3 (by decide) (hts _ wt1_111) (fun _ h9 => h9) rfl dVa_fits_13 ?_
    refine lv_bipush (v := iI 40) hx hb dVa_fits_16 (by decide) ?_
    refine iv_icmp_gt (tgt := 25) hx hb dVa_fits_18 (by decide) ⟨by omega, by omega⟩ ⟨by decide, by decide⟩ (fun hc18 => ?_) (fun hc18 => ?_)
    · refine lv_iconst (v := iI 0) hx hb dVa_fits_25 rfl ?_
      exact rt_z hx hb hr hlocks hK hS dVa_fits_26 (nrw_bool (by omega)) () hP hD (show (0 = 1 ∧ N < PW 10 60 ∧ sc ≤ 40) ∨ (0 = 0 ∧ (PW 10 60 ≤ N ∨ 40 < sc)) from by first | exact Or.inl ⟨rfl, DL_lt hq4 (by omega), by omega⟩ | exact Or.inr ⟨rfl, Or.inr (by omega)⟩ | exact Or.inr ⟨rfl, Or.inl (Int.not_lt.mp fun z => by have := DL_le hq4 z (by decide); omega)⟩)
    · refine lv_iconst (v := iI 1) hx hb dVa_fits_21 rfl ?_
      refine lv_goto (tgt := 26) hx hb dVa_fits_22 (by decide) ?_
      exact rt_z hx hb hr hlocks hK hS dVa_fits_26 (nrw_bool (by omega)) () hP hD (show (1 = 1 ∧ N < PW 10 60 ∧ sc ≤ 40) ∨ (1 = 0 ∧ (PW 10 60 ≤ N ∨ 40 < sc)) from by first | exact Or.inl ⟨rfl, DL_lt hq4 (by omega), by omega⟩ | exact Or.inr ⟨rfl, Or.inr (by omega)⟩ | exact Or.inr ⟨rfl, Or.inl (Int.not_lt.mp fun z => by have := DL_le hq4 z (by decide); omega)⟩)

theorem dVa_printLength_0 : decode prog_6_method_8_code 0 = .ok (.aload_n 0, 1) := by decide +kernel
theorem dVa_printLength_1 : decode prog_6_method_8_code 1 = .ok (.getfield 9, 3) := by decide +kernel
theorem dVa_printLength_4 : decode prog_6_method_8_code 4 = .ok (.ifCond .eq 8, 3) := by decide +kernel
theorem dVa_printLength_7 : decode prog_6_method_8_code 7 = .ok (.aload_n 0, 1) := by decide +kernel
theorem dVa_printLength_8 : decode prog_6_method_8_code 8 = .ok (.getfield 33, 3) := by decide +kernel
theorem dVa_printLength_11 : decode prog_6_method_8_code 11 = .ok (.ireturn, 1) := by decide +kernel
theorem dVa_printLength_12 : decode prog_6_method_8_code 12 = .ok (.aload_n 0, 1) := by decide +kernel
theorem dVa_printLength_13 : decode prog_6_method_8_code 13 = .ok (.getfield 18, 3) := by decide +kernel
theorem dVa_printLength_16 : decode prog_6_method_8_code 16 = .ok (.invokevirtual 46, 3) := by decide +kernel
theorem dVa_printLength_19 : decode prog_6_method_8_code 19 = .ok (.ifCond .eq 5, 3) := by decide +kernel
theorem dVa_printLength_22 : decode prog_6_method_8_code 22 = .ok (.iconst 1, 1) := by decide +kernel
theorem dVa_printLength_23 : decode prog_6_method_8_code 23 = .ok (.ireturn, 1) := by decide +kernel
theorem dVa_printLength_24 : decode prog_6_method_8_code 24 = .ok (.aload_n 0, 1) := by decide +kernel
theorem dVa_printLength_25 : decode prog_6_method_8_code 25 = .ok (.getfield 18, 3) := by decide +kernel
theorem dVa_printLength_28 : decode prog_6_method_8_code 28 = .ok (.invokevirtual 61, 3) := by decide +kernel
theorem dVa_printLength_31 : decode prog_6_method_8_code 31 = .ok (.aload_n 0, 1) := by decide +kernel
theorem dVa_printLength_32 : decode prog_6_method_8_code 32 = .ok (.getfield 25, 3) := by decide +kernel
theorem dVa_printLength_35 : decode prog_6_method_8_code 35 = .ok (.invokestatic 65, 3) := by decide +kernel
theorem dVa_printLength_38 : decode prog_6_method_8_code 38 = .ok (.aload_n 0, 1) := by decide +kernel
theorem dVa_printLength_39 : decode prog_6_method_8_code 39 = .ok (.getfield 25, 3) := by decide +kernel
theorem dVa_printLength_42 : decode prog_6_method_8_code 42 = .ok (.ifCond .le 7, 3) := by decide +kernel
theorem dVa_printLength_45 : decode prog_6_method_8_code 45 = .ok (.iconst 1, 1) := by decide +kernel
theorem dVa_printLength_46 : decode prog_6_method_8_code 46 = .ok (.goto 4, 3) := by decide +kernel
theorem dVa_printLength_49 : decode prog_6_method_8_code 49 = .ok (.iconst 0, 1) := by decide +kernel
theorem dVa_printLength_50 : decode prog_6_method_8_code 50 = .ok (.iadd, 1) := by decide +kernel
theorem dVa_printLength_51 : decode prog_6_method_8_code 51 = .ok (.aload_n 0, 1) := by decide +kernel
theorem dVa_printLength_52 : decode prog_6_method_8_code 52 = .ok (.getfield 22, 3) := by decide +kernel
theorem dVa_printLength_55 : decode prog_6_method_8_code 55 = .ok (.ifCond .eq 7, 3) := by decide +kernel
theorem dVa_printLength_58 : decode prog_6_method_8_code 58 = .ok (.iconst 1, 1) := by decide +kernel
theorem dVa_printLength_59 : decode prog_6_method_8_code 59 = .ok (.goto 4, 3) := by decide +kernel
theorem dVa_printLength_62 : decode prog_6_method_8_code 62 = .ok (.iconst 0, 1) := by decide +kernel
theorem dVa_printLength_63 : decode prog_6_method_8_code 63 = .ok (.iadd, 1) := by decide +kernel
theorem dVa_printLength_64 : decode prog_6_method_8_code 64 = .ok (.ireturn, 1) := by decide +kernel
abbrev qVa_printLength (dC : Nat → ClassId) (dI : Nat → Nat → Nat) (dA : Nat → ClassId) (dS : Nat → Nat) (x : Nat) (w : Nat) (cr : Nat) (t : Int) (ng : Int) (sc : Int) (C : Int → Int) (ln : Int) (g : Nat) (F : Int → Int) (u : Int) (N : Int) (A : Nat → Prop) : Array Value → State → Outcome → State → Prop := QI (dC, dI) vwCl (tyA dA) (fun (r : Int) (v_ : Unit) => (t = 1 ∧ r = ln) ∨ (t = 0 ∧ N = 0 ∧ r = 1) ∨ (t = 0 ∧ N ≠ 0 ∧ ∃ k, DL N k ∧ k ≤ 60 ∧ r = max k sc + (if 0 < sc then 1 else 0) + ng)) (fun (v_ : Unit) => wVa dA x w cr t ng sc C ln (wWh dA w g F u [])) A
abbrev rmVa_printLength : Room := { frames := 1, cells := 0, slots := 0, locals := 23 }
set_option maxRecDepth 100000 in
set_option maxHeartbeats 1000000 in
theorem cVa_printLength (l : Launch) (dC : Nat → ClassId) (dI : Nat → Nat → Nat) (dA : Nat → ClassId) (dS : Nat → Nat) (x : Nat) (w : Nat) (cr : Nat) (t : Int) (ng : Int) (sc : Int) (C : Int → Int) (ln : Int) (g : Nat) (F : Int → Int) (u : Int) (N : Int) (hV : VV t ng sc ln C N) (hW : WR F u N) (sz : Nat) : Met l yVa_printLength wsVa_printLength rmVa_printLength (PC (dC, dI) vwCl (tyA dA) (XC dS) [.ref x] (wVa dA x w cr t ng sc C ln (wWh dA w g F u [])) sz) (qVa_printLength dC dI dA dS x w cr t ng sc C ln g F u N (va_A (wVa dA x w cr t ng sc C ln (wWh dA w g F u [])) sz)) 0 0 (va_A (wVa dA x w cr t ng sc C ln (wWh dA w g F u [])) sz) := by
  refine met_of (cc := prog_6_method_8_code) (maxL := 1) (ret := (some .int)) (Qc := qVa_printLength dC dI dA dS x w cr t ng sc C ln g F u N) (XC_ok dS) (by decide) rfl (Nat.le_of_ble_eq_true rfl) ?_
  intro p e s m below meth c ls A hx hb hr hml hown hts hlocks hnm hK hP hD hA hX hS hl
  have hl : lv_has ls 1 [(0, .ref x)] := hl
  have hown : s.vm.findClass "MacroReckoner$Value" = some m.cls := hown
  obtain ⟨H, hH⟩ : ∃ H : Heap, H = s.heap := ⟨_, rfl⟩
  obtain ⟨locs, hlo⟩ : ∃ L : List Loc, L = [] := ⟨_, rfl⟩
  have hP : va_P (dC, dI) vwCl (wVa dA x w cr t ng sc C ln (wWh dA w g F u [])) H := hH ▸ hP
  have hS : va_S A s.heap H locs := by rw [hH, hlo]; exact hS
  suffices hgo : W p l e rmVa_printLength s m [.ref x].toArray below meth c H locs 0 0 (MQ below (qVa_printLength dC dI dA dS x w cr t ng sc C ln g F u N A) [.ref x].toArray s 0 0 A) (F0 m 0 ls []) by rw [hH, hlo] at hgo; exact hgo
  clear hH hlo
  have hVk := hV
  obtain ⟨ht2, hng2, hsc2, hln2, hch2, hA1, hA2, hA3, hA4⟩ := hV
  refine lv_aload_n hx hb dVa_printLength_0 rfl (lv_at hl 0 rfl) ?_
  refine va_get (D := (dC, dI)) (ci := 4) (v := .int (iI t)) (C := "MacroReckoner$Value") (T := TVa) (N := 6) hx hb hts inVa hown hK hP 0 rfl rfl 0 (by decide) (hts _ wt1_100) (fun _ h9 => h9) rfl dVa_printLength_1 ?_
  refine iv_if_eq (tgt := 12) hx hb dVa_printLength_4 (by decide) ⟨by omega, by omega⟩ (fun hc4 => ?_) (fun hc4 => ?_)
  · refine lv_aload_n hx hb dVa_printLength_12 rfl (lv_at hl 0 rfl) ?_
    refine va_get (D := (dC, dI)) (ci := 4) (v := .ref w) (C := "MacroReckoner$Value") (T := TVa) (N := 6) hx hb hts inVa hown hK hP 0 rfl rfl 1 (by decide) (hts _ wt1_103) (fun _ h9 => h9) rfl dVa_printLength_13 ?_
    refine cv_i (va_runV (C := "MacroReckoner$Whole") (As := []) (rest := []) ⟨hx, hb, hml, hown, hts⟩ (cWh_isZero l dC dI dA w g F u N (by exact hW) H.size) (cwV 0 hts (gdV wt3_22 wt3_23 wt3_24 wt1_5 wt3_25) rfl rfl rfl ⟨rfl, by decide, by decide, by decide +kernel⟩ ⟨by decide, by decide⟩) (preV (q := ("MacroReckoner$Whole", TWh, 2)) hK hP hD hS hA XN_ok trivial [2, 3] rfl rfl 0 rfl rfl) rfl rfl hl.1 rfl (lv_room (Nat.le_of_ble_eq_true rfl)) dVa_printLength_16 ⟨Nat.zero_le _, Nat.zero_le _⟩) hP hD hS hA [2, 3] [0, 1] rfl (fun v_ => wVa dA x w cr t ng sc C ln (wWh dA w g F u [])) (fun _ => rfl) (wVa dA x w cr t ng sc C ln []) rfl (fun _ => rfl) [x, cr, w, g] rfl (fun _ => rfl) (fun _ => rfl) (fun r16 u_ H locs hq16 hP hD hS => ?_)
    have hP : va_P (dC, dI) vwCl (wVa dA x w cr t ng sc C ln (wWh dA w g F u [])) H := hP
    have hD : va_D A (wVa dA x w cr t ng sc C ln (wWh dA w g F u [])) := hD
    have hq16 : (r16 = 1 ∧ N = 0) ∨ (r16 = 0 ∧ N ≠ 0) := hq16
    refine iv_if_eq (tgt := 24) hx hb dVa_printLength_19 (by decide) ⟨by omega, by omega⟩ (fun hc19 => ?_) (fun hc19 => ?_)
    · refine lv_aload_n hx hb dVa_printLength_24 rfl (lv_at hl 0 rfl) ?_
      refine va_get (D := (dC, dI)) (ci := 4) (v := .ref w) (C := "MacroReckoner$Value") (T := TVa) (N := 6) hx hb hts inVa hown hK hP 0 rfl rfl 1 (by decide) (hts _ wt1_103) (fun _ h9 => h9) rfl dVa_printLength_25 ?_
      refine cv_i (va_runV (C := "MacroReckoner$Whole") (As := []) (rest := []) ⟨hx, hb, hml, hown, hts⟩ (cWh_size l dC dI dA dS w g F u N (by exact hW) H.size) (cwV 0 hts (gdV wt3_30 wt3_31 wt3_32 wt1_5 wt3_33) rfl rfl rfl ⟨rfl, by decide, by decide, by decide +kernel⟩ ⟨by decide, by decide⟩) (preV (q := ("MacroReckoner$Whole", TWh, 2)) hK hP hD hS hA (XC_ok dS) hX [2, 3] rfl rfl 0 rfl rfl) rfl rfl hl.1 rfl (lv_room (Nat.le_of_ble_eq_true rfl)) dVa_printLength_28 ⟨Nat.zero_le _, Nat.zero_le _⟩) hP hD hS hA [2, 3] [0, 1] rfl (fun v_ => wVa dA x w cr t ng sc C ln (wWh dA w g F u [])) (fun _ => rfl) (wVa dA x w cr t ng sc C ln []) rfl (fun _ => rfl) [x, cr, w, g] rfl (fun _ => rfl) (fun _ => rfl) (fun r28 u_ H locs hq28 hP hD hS => ?_)
      have hP : va_P (dC, dI) vwCl (wVa dA x w cr t ng sc C ln (wWh dA w g F u [])) H := hP
      have hD : va_D A (wVa dA x w cr t ng sc C ln (wWh dA w g F u [])) := hD
      have hq28 : DL N r28 := hq28
      have hDb := DL_le hq28 hA4 (by decide)
      have hD0 := hq28.1
      refine lv_aload_n hx hb dVa_printLength_31 rfl (lv_at hl 0 rfl) ?_
      refine va_get (D := (dC, dI)) (ci := 4) (v := .int (iI sc)) (C := "MacroReckoner$Value") (T := TVa) (N := 6) hx hb hts inVa hown hK hP 0 rfl rfl 3 (by decide) (hts _ wt1_111) (fun _ h9 => h9) rfl dVa_printLength_32 ?_
      refine iv_mmax hx hb (hml.trans hl.1.symm) hown (hts _ wt3_213) (hts _ wt2_178) (hts _ wt1_16) (hts _ wt2_179) (by decide) (Nat.le_of_ble_eq_true rfl) (Nat.zero_le _) (Nat.zero_le _) dVa_printLength_35 ⟨by omega, by omega⟩ ⟨by omega, by omega⟩ ?_
      refine lv_aload_n hx hb dVa_printLength_38 rfl (lv_at hl 0 rfl) ?_
      refine va_get (D := (dC, dI)) (ci := 4) (v := .int (iI sc)) (C := "MacroReckoner$Value") (T := TVa) (N := 6) hx hb hts inVa hown hK hP 0 rfl rfl 3 (by decide) (hts _ wt1_111) (fun _ h9 => h9) rfl dVa_printLength_39 ?_
      refine iv_if_le (tgt := 49) hx hb dVa_printLength_42 (by decide) ⟨by omega, by omega⟩ (fun hc42 => ?_) (fun hc42 => ?_)
      · refine lv_iconst (v := iI 0) hx hb dVa_printLength_49 rfl ?_
        refine iv_iadd hx hb dVa_printLength_50 ?_
        refine lv_aload_n hx hb dVa_printLength_51 rfl (lv_at hl 0 rfl) ?_
        refine va_get (D := (dC, dI)) (ci := 4) (v := .int (iI ng)) (C := "MacroReckoner$Value") (T := TVa) (N := 6) hx hb hts inVa hown hK hP 0 rfl rfl 2 (by decide) (hts _ wt1_107) (fun _ h9 => h9) rfl dVa_printLength_52 ?_
        refine iv_if_eq (tgt := 62) hx hb dVa_printLength_55 (by decide) ⟨by omega, by omega⟩ (fun hc55 => ?_) (fun hc55 => ?_)
        · refine lv_iconst (v := iI 0) hx hb dVa_printLength_62 rfl ?_
          refine iv_iadd hx hb dVa_printLength_63 ?_
          exact rt_i hx hb hr hlocks hK hS dVa_printLength_64 () hP hD (show (t = 1 ∧ (((max r28 sc) + 0) + 0) = ln) ∨ (t = 0 ∧ N = 0 ∧ (((max r28 sc) + 0) + 0) = 1) ∨ (t = 0 ∧ N ≠ 0 ∧ ∃ k, DL N k ∧ k ≤ 60 ∧ (((max r28 sc) + 0) + 0) = max k sc + (if 0 < sc then 1 else 0) + ng) from by refine Or.inr (Or.inr ⟨by omega, by omega, r28, hq28, hDb, ?_⟩); split <;> omega)
        · refine lv_iconst (v := iI 1) hx hb dVa_printLength_58 rfl ?_
          refine lv_goto (tgt := 63) hx hb dVa_printLength_59 (by decide) ?_
          refine iv_iadd hx hb dVa_printLength_63 ?_
          exact rt_i hx hb hr hlocks hK hS dVa_printLength_64 () hP hD (show (t = 1 ∧ (((max r28 sc) + 0) + 1) = ln) ∨ (t = 0 ∧ N = 0 ∧ (((max r28 sc) + 0) + 1) = 1) ∨ (t = 0 ∧ N ≠ 0 ∧ ∃ k, DL N k ∧ k ≤ 60 ∧ (((max r28 sc) + 0) + 1) = max k sc + (if 0 < sc then 1 else 0) + ng) from by refine Or.inr (Or.inr ⟨by omega, by omega, r28, hq28, hDb, ?_⟩); split <;> omega)
      · refine lv_iconst (v := iI 1) hx hb dVa_printLength_45 rfl ?_
        refine lv_goto (tgt := 50) hx hb dVa_printLength_46 (by decide) ?_
        refine iv_iadd hx hb dVa_printLength_50 ?_
        refine lv_aload_n hx hb dVa_printLength_51 rfl (lv_at hl 0 rfl) ?_
        refine va_get (D := (dC, dI)) (ci := 4) (v := .int (iI ng)) (C := "MacroReckoner$Value") (T := TVa) (N := 6) hx hb hts inVa hown hK hP 0 rfl rfl 2 (by decide) (hts _ wt1_107) (fun _ h9 => h9) rfl dVa_printLength_52 ?_
        refine iv_if_eq (tgt := 62) hx hb dVa_printLength_55 (by decide) ⟨by omega, by omega⟩ (fun hc55 => ?_) (fun hc55 => ?_)
        · refine lv_iconst (v := iI 0) hx hb dVa_printLength_62 rfl ?_
          refine iv_iadd hx hb dVa_printLength_63 ?_
          exact rt_i hx hb hr hlocks hK hS dVa_printLength_64 () hP hD (show (t = 1 ∧ (((max r28 sc) + 1) + 0) = ln) ∨ (t = 0 ∧ N = 0 ∧ (((max r28 sc) + 1) + 0) = 1) ∨ (t = 0 ∧ N ≠ 0 ∧ ∃ k, DL N k ∧ k ≤ 60 ∧ (((max r28 sc) + 1) + 0) = max k sc + (if 0 < sc then 1 else 0) + ng) from by refine Or.inr (Or.inr ⟨by omega, by omega, r28, hq28, hDb, ?_⟩); split <;> omega)
        · refine lv_iconst (v := iI 1) hx hb dVa_printLength_58 rfl ?_
          refine lv_goto (tgt := 63) hx hb dVa_printLength_59 (by decide) ?_
          refine iv_iadd hx hb dVa_printLength_63 ?_
          exact rt_i hx hb hr hlocks hK hS dVa_printLength_64 () hP hD (show (t = 1 ∧ (((max r28 sc) + 1) + 1) = ln) ∨ (t = 0 ∧ N = 0 ∧ (((max r28 sc) + 1) + 1) = 1) ∨ (t = 0 ∧ N ≠ 0 ∧ ∃ k, DL N k ∧ k ≤ 60 ∧ (((max r28 sc) + 1) + 1) = max k sc + (if 0 < sc then 1 else 0) + ng) from by refine Or.inr (Or.inr ⟨by omega, by omega, r28, hq28, hDb, ?_⟩); split <;> omega)
    · refine lv_iconst (v := iI 1) hx hb dVa_printLength_22 rfl ?_
      exact rt_i hx hb hr hlocks hK hS dVa_printLength_23 () hP hD (show (t = 1 ∧ 1 = ln) ∨ (t = 0 ∧ N = 0 ∧ 1 = 1) ∨ (t = 0 ∧ N ≠ 0 ∧ ∃ k, DL N k ∧ k ≤ 60 ∧ 1 = max k sc + (if 0 < sc then 1 else 0) + ng) from by omega)
  · refine lv_aload_n hx hb dVa_printLength_7 rfl (lv_at hl 0 rfl) ?_
    refine va_get (D := (dC, dI)) (ci := 4) (v := .int (iI ln)) (C := "MacroReckoner$Value") (T := TVa) (N := 6) hx hb hts inVa hown hK hP 0 rfl rfl 5 (by decide) (hts _ wt1_118) (fun _ h9 => h9) rfl dVa_printLength_8 ?_
    exact rt_i hx hb hr hlocks hK hS dVa_printLength_11 () hP hD (show (t = 1 ∧ ln = ln) ∨ (t = 0 ∧ N = 0 ∧ ln = 1) ∨ (t = 0 ∧ N ≠ 0 ∧ ∃ k, DL N k ∧ k ≤ 60 ∧ ln = max k sc + (if 0 < sc then 1 else 0) + ng) from by omega)
