theorem dPa_printDigits_0 : decode prog_3_method_6_code 0 = .ok (.aload_n 1, 1) := by decide +kernel
theorem dPa_printDigits_1 : decode prog_3_method_6_code 1 = .ok (.getfield 45, 3) := by decide +kernel
theorem dPa_printDigits_4 : decode prog_3_method_6_code 4 = .ok (.ifCond .eq 9, 3) := by decide +kernel
theorem dPa_printDigits_7 : decode prog_3_method_6_code 7 = .ok (.aload_n 0, 1) := by decide +kernel
theorem dPa_printDigits_8 : decode prog_3_method_6_code 8 = .ok (.bipush 45, 2) := by decide +kernel
theorem dPa_printDigits_10 : decode prog_3_method_6_code 10 = .ok (.invokevirtual 27, 3) := by decide +kernel
theorem dPa_printDigits_13 : decode prog_3_method_6_code 13 = .ok (.aload_n 1, 1) := by decide +kernel
theorem dPa_printDigits_14 : decode prog_3_method_6_code 14 = .ok (.getfield 31, 3) := by decide +kernel
theorem dPa_printDigits_17 : decode prog_3_method_6_code 17 = .ok (.invokevirtual 48, 3) := by decide +kernel
theorem dPa_printDigits_20 : decode prog_3_method_6_code 20 = .ok (.aload_n 1, 1) := by decide +kernel
theorem dPa_printDigits_21 : decode prog_3_method_6_code 21 = .ok (.getfield 52, 3) := by decide +kernel
theorem dPa_printDigits_24 : decode prog_3_method_6_code 24 = .ok (.invokestatic 55, 3) := by decide +kernel
theorem dPa_printDigits_27 : decode prog_3_method_6_code 27 = .ok (.iconst 1, 1) := by decide +kernel
theorem dPa_printDigits_28 : decode prog_3_method_6_code 28 = .ok (.isub, 1) := by decide +kernel
theorem dPa_printDigits_29 : decode prog_3_method_6_code 29 = .ok (.istore_n 2, 1) := by decide +kernel
theorem dPa_printDigits_30 : decode prog_3_method_6_code 30 = .ok (.iload_n 2, 1) := by decide +kernel
theorem dPa_printDigits_31 : decode prog_3_method_6_code 31 = .ok (.ifCond .lt 41, 3) := by decide +kernel
theorem dPa_printDigits_34 : decode prog_3_method_6_code 34 = .ok (.iload_n 2, 1) := by decide +kernel
theorem dPa_printDigits_35 : decode prog_3_method_6_code 35 = .ok (.aload_n 1, 1) := by decide +kernel
theorem dPa_printDigits_36 : decode prog_3_method_6_code 36 = .ok (.getfield 52, 3) := by decide +kernel
theorem dPa_printDigits_39 : decode prog_3_method_6_code 39 = .ok (.iconst 1, 1) := by decide +kernel
theorem dPa_printDigits_40 : decode prog_3_method_6_code 40 = .ok (.isub, 1) := by decide +kernel
theorem dPa_printDigits_41 : decode prog_3_method_6_code 41 = .ok (.if_icmp .ne 9, 3) := by decide +kernel
theorem dPa_printDigits_44 : decode prog_3_method_6_code 44 = .ok (.aload_n 0, 1) := by decide +kernel
theorem dPa_printDigits_45 : decode prog_3_method_6_code 45 = .ok (.bipush 46, 2) := by decide +kernel
theorem dPa_printDigits_47 : decode prog_3_method_6_code 47 = .ok (.invokevirtual 27, 3) := by decide +kernel
theorem dPa_printDigits_50 : decode prog_3_method_6_code 50 = .ok (.aload_n 0, 1) := by decide +kernel
theorem dPa_printDigits_51 : decode prog_3_method_6_code 51 = .ok (.bipush 48, 2) := by decide +kernel
theorem dPa_printDigits_53 : decode prog_3_method_6_code 53 = .ok (.aload_n 1, 1) := by decide +kernel
theorem dPa_printDigits_54 : decode prog_3_method_6_code 54 = .ok (.getfield 31, 3) := by decide +kernel
theorem dPa_printDigits_57 : decode prog_3_method_6_code 57 = .ok (.iload_n 2, 1) := by decide +kernel
theorem dPa_printDigits_58 : decode prog_3_method_6_code 58 = .ok (.invokevirtual 61, 3) := by decide +kernel
theorem dPa_printDigits_61 : decode prog_3_method_6_code 61 = .ok (.iadd, 1) := by decide +kernel
theorem dPa_printDigits_62 : decode prog_3_method_6_code 62 = .ok (.i2c, 1) := by decide +kernel
theorem dPa_printDigits_63 : decode prog_3_method_6_code 63 = .ok (.invokevirtual 27, 3) := by decide +kernel
theorem dPa_printDigits_66 : decode prog_3_method_6_code 66 = .ok (.iinc 2 (-1), 3) := by decide +kernel
theorem dPa_printDigits_69 : decode prog_3_method_6_code 69 = .ok (.goto (-39), 3) := by decide +kernel
theorem dPa_printDigits_72 : decode prog_3_method_6_code 72 = .ok (.return_, 1) := by decide +kernel
abbrev qPa_printDigits (dC : Nat → ClassId) (dI : Nat → Nat → Nat) (dA : Nat → ClassId) (dS : Nat → Nat) (pa : Nat) (pr : Nat) (P : Int → Int) (pl : Int) (x : Nat) (w : Nat) (cr : Nat) (t : Int) (ng : Int) (sc : Int) (C : Int → Int) (ln : Int) (g : Nat) (F : Int → Int) (u : Int) (N : Int) (kd : Int) (pt : Int) (A : Nat → Prop) : Array Value → State → Outcome → State → Prop := QV (dC, dI) vwCl (tyA dA) (fun (v_ : (Int → Int)) => (∀ j, j < pl → v_ j = P j) ∧ ∀ j, 0 ≤ j → j < ng + max kd sc + pt → v_ (pl + j) = prQ ng sc N (max kd sc) j) (fun (v_ : (Int → Int)) => wPa dA pa pr v_ (pl + (ng + max kd sc + pt)) (wVa dA x w cr t ng sc C ln (wWh dA w g F u []))) A
abbrev rmPa_printDigits : Room := { frames := 1, cells := 0, slots := 0, locals := 23 }
set_option maxRecDepth 100000 in
set_option maxHeartbeats 1000000 in
theorem cPa_printDigits (l : Launch) (dC : Nat → ClassId) (dI : Nat → Nat → Nat) (dA : Nat → ClassId) (dS : Nat → Nat) (pa : Nat) (pr : Nat) (P : Int → Int) (pl : Int) (x : Nat) (w : Nat) (cr : Nat) (t : Int) (ng : Int) (sc : Int) (C : Int → Int) (ln : Int) (g : Nat) (F : Int → Int) (u : Int) (N : Int) (kd : Int) (pt : Int) (hV : VV t ng sc ln C N) (hW : WR F u N) (hkd : DL N kd) (hpt : (0 < sc ∧ pt = 1) ∨ (sc = 0 ∧ pt = 0)) (hpl : 0 ≤ pl ∧ pl + (ng + max kd sc + pt) ≤ 200) (sz : Nat) : Met l yPa_printDigits wsPa_printDigits rmPa_printDigits (PC (dC, dI) vwCl (tyA dA) (XC dS) [.ref pa, .ref x] (wPa dA pa pr P pl (wVa dA x w cr t ng sc C ln (wWh dA w g F u []))) sz) (qPa_printDigits dC dI dA dS pa pr P pl x w cr t ng sc C ln g F u N kd pt (va_A (wPa dA pa pr P pl (wVa dA x w cr t ng sc C ln (wWh dA w g F u []))) sz)) 0 0 (va_A (wPa dA pa pr P pl (wVa dA x w cr t ng sc C ln (wWh dA w g F u []))) sz) := by
  refine met_of (cc := prog_3_method_6_code) (maxL := 3) (ret := none) (Qc := qPa_printDigits dC dI dA dS pa pr P pl x w cr t ng sc C ln g F u N kd pt) (XC_ok dS) (by decide) rfl (Nat.le_of_ble_eq_true rfl) ?_
  intro p e s m below meth c ls A hx hb hr hml hown hts hlocks hnm hK hP hD hA hX hS hl
  have hl : lv_has ls 3 [(0, .ref pa), (1, .ref x)] := hl
  have hown : s.vm.findClass "MacroReckoner$Paper" = some m.cls := hown
  obtain ⟨H, hH⟩ : ∃ H : Heap, H = s.heap := ⟨_, rfl⟩
  obtain ⟨locs, hlo⟩ : ∃ L : List Loc, L = [] := ⟨_, rfl⟩
  have hP : va_P (dC, dI) vwCl (wPa dA pa pr P pl (wVa dA x w cr t ng sc C ln (wWh dA w g F u []))) H := hH ▸ hP
  have hS : va_S A s.heap H locs := by rw [hH, hlo]; exact hS
  suffices hgo : W p l e rmPa_printDigits s m [.ref pa, .ref x].toArray below meth c H locs 0 0 (MQ below (qPa_printDigits dC dI dA dS pa pr P pl x w cr t ng sc C ln g F u N kd pt A) [.ref pa, .ref x].toArray s 0 0 A) (F0 m 0 ls []) by rw [hH, hlo] at hgo; exact hgo
  clear hH hlo
  obtain ⟨ht2, hng2, hsc2, hln2, hch2, hA1, hA2, hA3, hA4⟩ := hV
  have hkd2 := DL_le hkd hA4 (by decide)
  have hkd0 := hkd.1
  refine lv_aload_n hx hb dPa_printDigits_0 rfl (lv_at hl 1 rfl) ?_
  refine va_getN (D := (dC, dI)) (ci := 4) (v := .int (iI ng)) (C := "MacroReckoner$Value") (T := TVa) (N := 6) hx hb hts inVa hown hK hP 2 rfl rfl 2 (by decide) (va_Nw.use rfl (hX.1 ("MacroReckoner$Paper", 45, "MacroReckoner$Value", "negative", "Z", "MacroReckoner") (List.mem_of_getElem? (i := 14) rfl))) (fun _ h9 => h9) rfl dPa_printDigits_1 ?_
  refine iv_if_eq (tgt := 13) hx hb dPa_printDigits_4 (by decide) ⟨by omega, by omega⟩ (fun hc4 => ?_) (fun hc4 => ?_)
  · refine lv_aload_n hx hb dPa_printDigits_13 rfl (lv_at hl 1 rfl) ?_
    refine va_getN (D := (dC, dI)) (ci := 4) (v := .ref w) (C := "MacroReckoner$Value") (T := TVa) (N := 6) hx hb hts inVa hown hK hP 2 rfl rfl 1 (by decide) (va_Nw.use rfl (hX.1 ("MacroReckoner$Paper", 31, "MacroReckoner$Value", "whole", "LMacroReckoner$Whole;", "MacroReckoner") (List.mem_of_getElem? (i := 11) rfl))) (fun _ h9 => h9) rfl dPa_printDigits_14 ?_
    refine cv_i (va_runV (C := "MacroReckoner$Whole") (As := []) (rest := []) ⟨hx, hb, hml, hown, hts⟩ (cWh_size l dC dI dA dS w g F u N (by exact hW) H.size) (cwV 0 hts (gdV wt3_231 wt3_31 wt3_32 wt1_5 wt3_33) rfl rfl rfl ⟨rfl, by decide, by decide, by decide +kernel⟩ ⟨by decide, by decide⟩) (preV (q := ("MacroReckoner$Whole", TWh, 2)) hK hP hD hS hA (XC_ok dS) hX [4, 5] rfl rfl 0 rfl rfl) rfl rfl hl.1 rfl (lv_room (Nat.le_of_ble_eq_true rfl)) dPa_printDigits_17 ⟨Nat.zero_le _, Nat.zero_le _⟩) hP hD hS hA [4, 5] [0, 1, 2, 3] rfl (fun v_ => wPa dA pa pr P pl (wVa dA x w cr t ng sc C ln (wWh dA w g F u []))) (fun _ => rfl) (wPa dA pa pr P pl (wVa dA x w cr t ng sc C ln [])) rfl (fun _ => rfl) [pa, pr, x, cr, w, g] rfl (fun _ => rfl) (fun _ => rfl) (fun r17 u_ H locs hq17 hP hD hS => ?_)
    have hP : va_P (dC, dI) vwCl (wPa dA pa pr P pl (wVa dA x w cr t ng sc C ln (wWh dA w g F u []))) H := hP
    have hD : va_D A (wPa dA pa pr P pl (wVa dA x w cr t ng sc C ln (wWh dA w g F u []))) := hD
    have hq17 : DL N r17 := hq17
    have hke : r17 = kd := DL_u hq17 hkd
    refine lv_aload_n hx hb dPa_printDigits_20 rfl (lv_at hl 1 rfl) ?_
    refine va_getN (D := (dC, dI)) (ci := 4) (v := .int (iI sc)) (C := "MacroReckoner$Value") (T := TVa) (N := 6) hx hb hts inVa hown hK hP 2 rfl rfl 3 (by decide) (va_Nw.use rfl (hX.1 ("MacroReckoner$Paper", 52, "MacroReckoner$Value", "scale", "I", "MacroReckoner") (List.mem_of_getElem? (i := 17) rfl))) (fun _ h9 => h9) rfl dPa_printDigits_21 ?_
    refine iv_mmax hx hb (hml.trans hl.1.symm) hown (hts _ wt3_232) (hts _ wt2_178) (hts _ wt1_16) (hts _ wt2_179) (by decide) (Nat.le_of_ble_eq_true rfl) (Nat.zero_le _) (Nat.zero_le _) dPa_printDigits_24 ⟨by omega, by omega⟩ ⟨by omega, by omega⟩ ?_
    refine lv_iconst (v := iI 1) hx hb dPa_printDigits_27 rfl ?_
    refine iv_isub hx hb dPa_printDigits_28 ?_
    refine lv_istore_n (lv' := [(2, .int (iI ((max r17 sc) - 1))), (0, .ref pa), (1, .ref x)]) hx hb dPa_printDigits_29 rfl hl (by decide) rfl (fun ls hl => ?_)
    have L30 : ∀ (n : Nat) (P9 : Int → Int) (p9 : Int) (q : Int) (H : Heap) (locs : List Loc) (ls : Array Slot), (pdJ P pl ng sc N (max kd sc) P9 p9 q) → (q + 1).toNat < n → va_P (dC, dI) vwCl (wPa dA pa pr P9 p9 (wVa dA x w cr t ng sc C ln (wWh dA w g F u []))) H → va_D A (wPa dA pa pr P9 p9 (wVa dA x w cr t ng sc C ln (wWh dA w g F u []))) → va_S A s.heap H locs → lv_has ls 3 [(2, .int (iI q)), (0, .ref pa), (1, .ref x)] → W p l e rmPa_printDigits s m [.ref pa, .ref x].toArray below meth c H locs 0 0 (MQ below (qPa_printDigits dC dI dA dS pa pr P pl x w cr t ng sc C ln g F u N kd pt A) [.ref pa, .ref x].toArray s 0 0 A) (F0 m 30 ls []) := by
      intro n
      induction n with
      | zero => intro P9 p9 q H locs ls hJ hn; omega
      | succ n ih =>
        intro P9 p9 q H locs ls hJ hn hP hD hS hl
        have hj1 := hJ.1
        have hj2 := hJ.2.1
        have ih30 := ih
        refine lv_iload_n hx hb dPa_printDigits_30 rfl (lv_at hl 0 rfl) ?_
        refine iv_if_lt (tgt := 72) hx hb dPa_printDigits_31 (by decide) ⟨by omega, by omega⟩ (fun hc31 => ?_) (fun hc31 => ?_)
        · have hpe : p9 = pl + (ng + max kd sc + pt) := by have := hJ.2.2.1; omega
          rw [hpe] at hP hD
          exact rt_v hx hb hr hlocks hK hS dPa_printDigits_72 (P9) hP hD (show (∀ j, j < pl → P9 j = P j) ∧ ∀ j, 0 ≤ j → j < ng + max kd sc + pt → P9 (pl + j) = prQ ng sc N (max kd sc) j from by obtain ⟨b1, b2, b3, b4, b5⟩ := hJ; exact ⟨b4, fun j x y => b5 j x (by omega)⟩)
        · refine lv_iload_n hx hb dPa_printDigits_34 rfl (lv_at hl 0 rfl) ?_
          refine lv_aload_n hx hb dPa_printDigits_35 rfl (lv_at hl 2 rfl) ?_
          refine va_getN (D := (dC, dI)) (ci := 4) (v := .int (iI sc)) (C := "MacroReckoner$Value") (T := TVa) (N := 6) hx hb hts inVa hown hK hP 2 rfl rfl 3 (by decide) (va_Nw.use rfl (hX.1 ("MacroReckoner$Paper", 52, "MacroReckoner$Value", "scale", "I", "MacroReckoner") (List.mem_of_getElem? (i := 17) rfl))) (fun _ h9 => h9) rfl dPa_printDigits_36 ?_
          refine lv_iconst (v := iI 1) hx hb dPa_printDigits_39 rfl ?_
          refine iv_isub hx hb dPa_printDigits_40 ?_
          refine iv_icmp_ne (tgt := 50) hx hb dPa_printDigits_41 (by decide) ⟨by omega, by omega⟩ ⟨by omega, by omega⟩ (fun hc41 => ?_) (fun hc41 => ?_)
          · refine lv_aload_n hx hb dPa_printDigits_50 rfl (lv_at hl 1 rfl) ?_
            refine lv_bipush (v := iI 48) hx hb dPa_printDigits_51 (by decide) ?_
            refine lv_aload_n hx hb dPa_printDigits_53 rfl (lv_at hl 2 rfl) ?_
            refine va_getN (D := (dC, dI)) (ci := 4) (v := .ref w) (C := "MacroReckoner$Value") (T := TVa) (N := 6) hx hb hts inVa hown hK hP 2 rfl rfl 1 (by decide) (va_Nw.use rfl (hX.1 ("MacroReckoner$Paper", 31, "MacroReckoner$Value", "whole", "LMacroReckoner$Whole;", "MacroReckoner") (List.mem_of_getElem? (i := 11) rfl))) (fun _ h9 => h9) rfl dPa_printDigits_54 ?_
            refine lv_iload_n hx hb dPa_printDigits_57 rfl (lv_at hl 0 rfl) ?_
            refine cv_i (va_runV (C := "MacroReckoner$Whole") (As := [.int (iI q)]) (rest := [.int (iI 48), .ref pa]) ⟨hx, hb, hml, hown, hts⟩ (cWh_digit l dC dI dA dS w g F u N q (by exact hW) (by omega) H.size) (cwV 1 hts (gdV wt3_233 wt3_234 wt3_235 wt1_5 wt3_236) rfl rfl rfl ⟨rfl, by decide, by decide, by decide +kernel⟩ ⟨by decide, by decide⟩) (preV (q := ("MacroReckoner$Whole", TWh, 2)) hK hP hD hS hA (XC_ok dS) hX [4, 5] rfl rfl 0 rfl rfl) rfl rfl hl.1 rfl (lv_room (Nat.le_of_ble_eq_true rfl)) dPa_printDigits_58 ⟨Nat.zero_le _, Nat.zero_le _⟩) hP hD hS hA [4, 5] [0, 1, 2, 3] rfl (fun v_ => wPa dA pa pr P9 p9 (wVa dA x w cr t ng sc C ln (wWh dA w g F u []))) (fun _ => rfl) (wPa dA pa pr P9 p9 (wVa dA x w cr t ng sc C ln [])) rfl (fun _ => rfl) [pa, pr, x, cr, w, g] rfl (fun _ => rfl) (fun _ => rfl) (fun r58 u_ H locs hq58 hP hD hS => ?_)
            have hP : va_P (dC, dI) vwCl (wPa dA pa pr P9 p9 (wVa dA x w cr t ng sc C ln (wWh dA w g F u []))) H := hP
            have hD : va_D A (wPa dA pa pr P9 p9 (wVa dA x w cr t ng sc C ln (wWh dA w g F u []))) := hD
            have hq58 : r58 = N / PW 10 q % 10 := hq58
            have hdg : 48 + r58 = dg N q := by unfold dg; rw [hq58]
            have hdb := dg_b (N := N) (p := q)
            refine iv_iadd hx hb dPa_printDigits_61 ?_
            refine iv_i2c hx hb dPa_printDigits_62 (by omega) (by omega) ?_
            refine cv_v (va_runV (C := "MacroReckoner$Paper") (As := [.int (iI (48 + r58))]) (rest := []) ⟨hx, hb, hml, hown, hts⟩ (cPa_put l dC dI dA pa pr P9 p9 (48 + r58) (by have := hJ.2.2.1; omega) (by omega) H.size) (cwV 1 hts (gdV wt3_222 wt3_223 wt3_224 wt1_7 wt3_225) rfl rfl rfl ⟨rfl, by decide, by decide, by decide +kernel⟩ ⟨by decide, by decide⟩) (preV (q := ("MacroReckoner$Paper", TPa, 2)) hK hP hD hS hA XN_ok trivial [0, 1] rfl rfl 0 rfl rfl) rfl rfl hl.1 rfl (lv_room (Nat.le_of_ble_eq_true rfl)) dPa_printDigits_63 ⟨Nat.zero_le _, Nat.zero_le _⟩) hP hD hS hA [0, 1] [2, 3, 4, 5] rfl (fun v_ => wPa dA pa pr ((up P9 p9 (48 + r58))) ((p9 + 1)) (wVa dA x w cr t ng sc C ln (wWh dA w g F u []))) (fun _ => rfl) (wVa dA x w cr t ng sc C ln (wWh dA w g F u [])) rfl (fun _ => rfl) [pa, pr, x, cr, w, g] rfl (fun _ => rfl) (fun _ => rfl) (fun u_ H locs hq63 hP hD hS => ?_)
            have hP : va_P (dC, dI) vwCl (wPa dA pa pr ((up P9 p9 (48 + r58))) ((p9 + 1)) (wVa dA x w cr t ng sc C ln (wWh dA w g F u []))) H := hP
            have hD : va_D A (wPa dA pa pr ((up P9 p9 (48 + r58))) ((p9 + 1)) (wVa dA x w cr t ng sc C ln (wWh dA w g F u []))) := hD
            have hq63 : True := hq63
            refine lv_iinc (k := 0) (lv' := [(2, .int (iI (q - 1))), (0, .ref pa), (1, .ref x)]) (v := iI (q - 1)) hx hb dPa_printDigits_66 hl rfl (by rw [show (Int32.ofInt (-1)) = iI (-1) from rfl, ← iI_add]; congr 1) (by decide) rfl (fun ls hl => ?_)
            refine lv_goto (tgt := 30) hx hb dPa_printDigits_69 (by decide) ?_
            exact ih30 ((up P9 p9 (48 + r58))) ((p9 + 1)) (q - 1) H locs ls (by first | (rw [hdg]; exact pd_2 hc31 hc41 (by omega) hpl.1 (by omega) hz1 hz2 hz3) | (rw [hdg]; exact pd_1 hJ hc31 hc41 (by omega) hpl.1 (by omega))) (by omega) hP hD hS (lv_sub hl [0, 1, 2] rfl)
          · refine lv_aload_n hx hb dPa_printDigits_44 rfl (lv_at hl 1 rfl) ?_
            refine lv_bipush (v := iI 46) hx hb dPa_printDigits_45 (by decide) ?_
            refine cv_v (va_runV (C := "MacroReckoner$Paper") (As := [.int (iI 46)]) (rest := []) ⟨hx, hb, hml, hown, hts⟩ (cPa_put l dC dI dA pa pr P9 p9 46 (by have := hJ.2.2.1; omega) (by omega) H.size) (cwV 1 hts (gdV wt3_222 wt3_223 wt3_224 wt1_7 wt3_225) rfl rfl rfl ⟨rfl, by decide, by decide, by decide +kernel⟩ ⟨by decide, by decide⟩) (preV (q := ("MacroReckoner$Paper", TPa, 2)) hK hP hD hS hA XN_ok trivial [0, 1] rfl rfl 0 rfl rfl) rfl rfl hl.1 rfl (lv_room (Nat.le_of_ble_eq_true rfl)) dPa_printDigits_47 ⟨Nat.zero_le _, Nat.zero_le _⟩) hP hD hS hA [0, 1] [2, 3, 4, 5] rfl (fun v_ => wPa dA pa pr ((up P9 p9 46)) ((p9 + 1)) (wVa dA x w cr t ng sc C ln (wWh dA w g F u []))) (fun _ => rfl) (wVa dA x w cr t ng sc C ln (wWh dA w g F u [])) rfl (fun _ => rfl) [pa, pr, x, cr, w, g] rfl (fun _ => rfl) (fun _ => rfl) (fun u_ H locs hq47 hP hD hS => ?_)
            have hP : va_P (dC, dI) vwCl (wPa dA pa pr ((up P9 p9 46)) ((p9 + 1)) (wVa dA x w cr t ng sc C ln (wWh dA w g F u []))) H := hP
            have hD : va_D A (wPa dA pa pr ((up P9 p9 46)) ((p9 + 1)) (wVa dA x w cr t ng sc C ln (wWh dA w g F u []))) := hD
            have hq47 : True := hq47
            obtain ⟨hz1, hz2, hz3⟩ := pd_p hJ hc31 hc41 (by omega) hpl.1 (by omega)
            refine lv_aload_n hx hb dPa_printDigits_50 rfl (lv_at hl 1 rfl) ?_
            refine lv_bipush (v := iI 48) hx hb dPa_printDigits_51 (by decide) ?_
            refine lv_aload_n hx hb dPa_printDigits_53 rfl (lv_at hl 2 rfl) ?_
            refine va_getN (D := (dC, dI)) (ci := 4) (v := .ref w) (C := "MacroReckoner$Value") (T := TVa) (N := 6) hx hb hts inVa hown hK hP 2 rfl rfl 1 (by decide) (va_Nw.use rfl (hX.1 ("MacroReckoner$Paper", 31, "MacroReckoner$Value", "whole", "LMacroReckoner$Whole;", "MacroReckoner") (List.mem_of_getElem? (i := 11) rfl))) (fun _ h9 => h9) rfl dPa_printDigits_54 ?_
            refine lv_iload_n hx hb dPa_printDigits_57 rfl (lv_at hl 0 rfl) ?_
            refine cv_i (va_runV (C := "MacroReckoner$Whole") (As := [.int (iI q)]) (rest := [.int (iI 48), .ref pa]) ⟨hx, hb, hml, hown, hts⟩ (cWh_digit l dC dI dA dS w g F u N q (by exact hW) (by omega) H.size) (cwV 1 hts (gdV wt3_233 wt3_234 wt3_235 wt1_5 wt3_236) rfl rfl rfl ⟨rfl, by decide, by decide, by decide +kernel⟩ ⟨by decide, by decide⟩) (preV (q := ("MacroReckoner$Whole", TWh, 2)) hK hP hD hS hA (XC_ok dS) hX [4, 5] rfl rfl 0 rfl rfl) rfl rfl hl.1 rfl (lv_room (Nat.le_of_ble_eq_true rfl)) dPa_printDigits_58 ⟨Nat.zero_le _, Nat.zero_le _⟩) hP hD hS hA [4, 5] [0, 1, 2, 3] rfl (fun v_ => wPa dA pa pr ((up P9 p9 46)) ((p9 + 1)) (wVa dA x w cr t ng sc C ln (wWh dA w g F u []))) (fun _ => rfl) (wPa dA pa pr ((up P9 p9 46)) ((p9 + 1)) (wVa dA x w cr t ng sc C ln [])) rfl (fun _ => rfl) [pa, pr, x, cr, w, g] rfl (fun _ => rfl) (fun _ => rfl) (fun r58 u_ H locs hq58 hP hD hS => ?_)
            have hP : va_P (dC, dI) vwCl (wPa dA pa pr ((up P9 p9 46)) ((p9 + 1)) (wVa dA x w cr t ng sc C ln (wWh dA w g F u []))) H := hP
            have hD : va_D A (wPa dA pa pr ((up P9 p9 46)) ((p9 + 1)) (wVa dA x w cr t ng sc C ln (wWh dA w g F u []))) := hD
            have hq58 : r58 = N / PW 10 q % 10 := hq58
            have hdg : 48 + r58 = dg N q := by unfold dg; rw [hq58]
            have hdb := dg_b (N := N) (p := q)
            refine iv_iadd hx hb dPa_printDigits_61 ?_
            refine iv_i2c hx hb dPa_printDigits_62 (by omega) (by omega) ?_
            refine cv_v (va_runV (C := "MacroReckoner$Paper") (As := [.int (iI (48 + r58))]) (rest := []) ⟨hx, hb, hml, hown, hts⟩ (cPa_put l dC dI dA pa pr (((up P9 p9 46))) (((p9 + 1))) (48 + r58) (by have := hJ.2.2.1; omega) (by omega) H.size) (cwV 1 hts (gdV wt3_222 wt3_223 wt3_224 wt1_7 wt3_225) rfl rfl rfl ⟨rfl, by decide, by decide, by decide +kernel⟩ ⟨by decide, by decide⟩) (preV (q := ("MacroReckoner$Paper", TPa, 2)) hK hP hD hS hA XN_ok trivial [0, 1] rfl rfl 0 rfl rfl) rfl rfl hl.1 rfl (lv_room (Nat.le_of_ble_eq_true rfl)) dPa_printDigits_63 ⟨Nat.zero_le _, Nat.zero_le _⟩) hP hD hS hA [0, 1] [2, 3, 4, 5] rfl (fun v_ => wPa dA pa pr ((up (((up P9 p9 46))) (((p9 + 1))) (48 + r58))) (((((p9 + 1))) + 1)) (wVa dA x w cr t ng sc C ln (wWh dA w g F u []))) (fun _ => rfl) (wVa dA x w cr t ng sc C ln (wWh dA w g F u [])) rfl (fun _ => rfl) [pa, pr, x, cr, w, g] rfl (fun _ => rfl) (fun _ => rfl) (fun u_ H locs hq63 hP hD hS => ?_)
            have hP : va_P (dC, dI) vwCl (wPa dA pa pr ((up (((up P9 p9 46))) (((p9 + 1))) (48 + r58))) (((((p9 + 1))) + 1)) (wVa dA x w cr t ng sc C ln (wWh dA w g F u []))) H := hP
            have hD : va_D A (wPa dA pa pr ((up (((up P9 p9 46))) (((p9 + 1))) (48 + r58))) (((((p9 + 1))) + 1)) (wVa dA x w cr t ng sc C ln (wWh dA w g F u []))) := hD
            have hq63 : True := hq63
            refine lv_iinc (k := 0) (lv' := [(2, .int (iI (q - 1))), (0, .ref pa), (1, .ref x)]) (v := iI (q - 1)) hx hb dPa_printDigits_66 hl rfl (by rw [show (Int32.ofInt (-1)) = iI (-1) from rfl, ← iI_add]; congr 1) (by decide) rfl (fun ls hl => ?_)
            refine lv_goto (tgt := 30) hx hb dPa_printDigits_69 (by decide) ?_
            exact ih30 ((up (((up P9 p9 46))) (((p9 + 1))) (48 + r58))) (((((p9 + 1))) + 1)) (q - 1) H locs ls (by first | (rw [hdg]; exact pd_2 hc31 hc41 (by omega) hpl.1 (by omega) hz1 hz2 hz3) | (rw [hdg]; exact pd_1 hJ hc31 hc41 (by omega) hpl.1 (by omega))) (by omega) hP hD hS (lv_sub hl [0, 1, 2] rfl)
    exact L30 _ P pl ((max r17 sc) - 1) H locs ls (by first | exact ⟨by omega, by omega, by omega, fun j x => up_n (by omega), fun j x y => by rw [show pl + j = pl by omega, up_s, prQ_s (by omega)]⟩ | exact ⟨by omega, by omega, by omega, fun _ _ => rfl, fun j x y => by omega⟩) (Nat.lt_succ_self _) hP hD hS (lv_sub hl [0, 1, 2] rfl)
  · refine lv_aload_n hx hb dPa_printDigits_7 rfl (lv_at hl 0 rfl) ?_
    refine lv_bipush (v := iI 45) hx hb dPa_printDigits_8 (by decide) ?_
    refine cv_v (va_runV (C := "MacroReckoner$Paper") (As := [.int (iI 45)]) (rest := []) ⟨hx, hb, hml, hown, hts⟩ (cPa_put l dC dI dA pa pr P pl 45 (by omega) (by omega) H.size) (cwV 1 hts (gdV wt3_222 wt3_223 wt3_224 wt1_7 wt3_225) rfl rfl rfl ⟨rfl, by decide, by decide, by decide +kernel⟩ ⟨by decide, by decide⟩) (preV (q := ("MacroReckoner$Paper", TPa, 2)) hK hP hD hS hA XN_ok trivial [0, 1] rfl rfl 0 rfl rfl) rfl rfl hl.1 rfl (lv_room (Nat.le_of_ble_eq_true rfl)) dPa_printDigits_10 ⟨Nat.zero_le _, Nat.zero_le _⟩) hP hD hS hA [0, 1] [2, 3, 4, 5] rfl (fun v_ => wPa dA pa pr ((up P pl 45)) ((pl + 1)) (wVa dA x w cr t ng sc C ln (wWh dA w g F u []))) (fun _ => rfl) (wVa dA x w cr t ng sc C ln (wWh dA w g F u [])) rfl (fun _ => rfl) [pa, pr, x, cr, w, g] rfl (fun _ => rfl) (fun _ => rfl) (fun u_ H locs hq10 hP hD hS => ?_)
    have hP : va_P (dC, dI) vwCl (wPa dA pa pr ((up P pl 45)) ((pl + 1)) (wVa dA x w cr t ng sc C ln (wWh dA w g F u []))) H := hP
    have hD : va_D A (wPa dA pa pr ((up P pl 45)) ((pl + 1)) (wVa dA x w cr t ng sc C ln (wWh dA w g F u []))) := hD
    have hq10 : True := hq10
    refine lv_aload_n hx hb dPa_printDigits_13 rfl (lv_at hl 1 rfl) ?_
    refine va_getN (D := (dC, dI)) (ci := 4) (v := .ref w) (C := "MacroReckoner$Value") (T := TVa) (N := 6) hx hb hts inVa hown hK hP 2 rfl rfl 1 (by decide) (va_Nw.use rfl (hX.1 ("MacroReckoner$Paper", 31, "MacroReckoner$Value", "whole", "LMacroReckoner$Whole;", "MacroReckoner") (List.mem_of_getElem? (i := 11) rfl))) (fun _ h9 => h9) rfl dPa_printDigits_14 ?_
    refine cv_i (va_runV (C := "MacroReckoner$Whole") (As := []) (rest := []) ⟨hx, hb, hml, hown, hts⟩ (cWh_size l dC dI dA dS w g F u N (by exact hW) H.size) (cwV 0 hts (gdV wt3_231 wt3_31 wt3_32 wt1_5 wt3_33) rfl rfl rfl ⟨rfl, by decide, by decide, by decide +kernel⟩ ⟨by decide, by decide⟩) (preV (q := ("MacroReckoner$Whole", TWh, 2)) hK hP hD hS hA (XC_ok dS) hX [4, 5] rfl rfl 0 rfl rfl) rfl rfl hl.1 rfl (lv_room (Nat.le_of_ble_eq_true rfl)) dPa_printDigits_17 ⟨Nat.zero_le _, Nat.zero_le _⟩) hP hD hS hA [4, 5] [0, 1, 2, 3] rfl (fun v_ => wPa dA pa pr ((up P pl 45)) ((pl + 1)) (wVa dA x w cr t ng sc C ln (wWh dA w g F u []))) (fun _ => rfl) (wPa dA pa pr ((up P pl 45)) ((pl + 1)) (wVa dA x w cr t ng sc C ln [])) rfl (fun _ => rfl) [pa, pr, x, cr, w, g] rfl (fun _ => rfl) (fun _ => rfl) (fun r17 u_ H locs hq17 hP hD hS => ?_)
    have hP : va_P (dC, dI) vwCl (wPa dA pa pr ((up P pl 45)) ((pl + 1)) (wVa dA x w cr t ng sc C ln (wWh dA w g F u []))) H := hP
    have hD : va_D A (wPa dA pa pr ((up P pl 45)) ((pl + 1)) (wVa dA x w cr t ng sc C ln (wWh dA w g F u []))) := hD
    have hq17 : DL N r17 := hq17
    have hke : r17 = kd := DL_u hq17 hkd
    refine lv_aload_n hx hb dPa_printDigits_20 rfl (lv_at hl 1 rfl) ?_
    refine va_getN (D := (dC, dI)) (ci := 4) (v := .int (iI sc)) (C := "MacroReckoner$Value") (T := TVa) (N := 6) hx hb hts inVa hown hK hP 2 rfl rfl 3 (by decide) (va_Nw.use rfl (hX.1 ("MacroReckoner$Paper", 52, "MacroReckoner$Value", "scale", "I", "MacroReckoner") (List.mem_of_getElem? (i := 17) rfl))) (fun _ h9 => h9) rfl dPa_printDigits_21 ?_
    refine iv_mmax hx hb (hml.trans hl.1.symm) hown (hts _ wt3_232) (hts _ wt2_178) (hts _ wt1_16) (hts _ wt2_179) (by decide) (Nat.le_of_ble_eq_true rfl) (Nat.zero_le _) (Nat.zero_le _) dPa_printDigits_24 ⟨by omega, by omega⟩ ⟨by omega, by omega⟩ ?_
    refine lv_iconst (v := iI 1) hx hb dPa_printDigits_27 rfl ?_
    refine iv_isub hx hb dPa_printDigits_28 ?_
    refine lv_istore_n (lv' := [(2, .int (iI ((max r17 sc) - 1))), (0, .ref pa), (1, .ref x)]) hx hb dPa_printDigits_29 rfl hl (by decide) rfl (fun ls hl => ?_)
    have L30 : ∀ (n : Nat) (P9 : Int → Int) (p9 : Int) (q : Int) (H : Heap) (locs : List Loc) (ls : Array Slot), (pdJ P pl ng sc N (max kd sc) P9 p9 q) → (q + 1).toNat < n → va_P (dC, dI) vwCl (wPa dA pa pr P9 p9 (wVa dA x w cr t ng sc C ln (wWh dA w g F u []))) H → va_D A (wPa dA pa pr P9 p9 (wVa dA x w cr t ng sc C ln (wWh dA w g F u []))) → va_S A s.heap H locs → lv_has ls 3 [(2, .int (iI q)), (0, .ref pa), (1, .ref x)] → W p l e rmPa_printDigits s m [.ref pa, .ref x].toArray below meth c H locs 0 0 (MQ below (qPa_printDigits dC dI dA dS pa pr P pl x w cr t ng sc C ln g F u N kd pt A) [.ref pa, .ref x].toArray s 0 0 A) (F0 m 30 ls []) := by
      intro n
      induction n with
      | zero => intro P9 p9 q H locs ls hJ hn; omega
      | succ n ih =>
        intro P9 p9 q H locs ls hJ hn hP hD hS hl
        have hj1 := hJ.1
        have hj2 := hJ.2.1
        have ih30 := ih
        refine lv_iload_n hx hb dPa_printDigits_30 rfl (lv_at hl 0 rfl) ?_
        refine iv_if_lt (tgt := 72) hx hb dPa_printDigits_31 (by decide) ⟨by omega, by omega⟩ (fun hc31 => ?_) (fun hc31 => ?_)
        · have hpe : p9 = pl + (ng + max kd sc + pt) := by have := hJ.2.2.1; omega
          rw [hpe] at hP hD
          exact rt_v hx hb hr hlocks hK hS dPa_printDigits_72 (P9) hP hD (show (∀ j, j < pl → P9 j = P j) ∧ ∀ j, 0 ≤ j → j < ng + max kd sc + pt → P9 (pl + j) = prQ ng sc N (max kd sc) j from by obtain ⟨b1, b2, b3, b4, b5⟩ := hJ; exact ⟨b4, fun j x y => b5 j x (by omega)⟩)
        · refine lv_iload_n hx hb dPa_printDigits_34 rfl (lv_at hl 0 rfl) ?_
          refine lv_aload_n hx hb dPa_printDigits_35 rfl (lv_at hl 2 rfl) ?_
          refine va_getN (D := (dC, dI)) (ci := 4) (v := .int (iI sc)) (C := "MacroReckoner$Value") (T := TVa) (N := 6) hx hb hts inVa hown hK hP 2 rfl rfl 3 (by decide) (va_Nw.use rfl (hX.1 ("MacroReckoner$Paper", 52, "MacroReckoner$Value", "scale", "I", "MacroReckoner") (List.mem_of_getElem? (i := 17) rfl))) (fun _ h9 => h9) rfl dPa_printDigits_36 ?_
          refine lv_iconst (v := iI 1) hx hb dPa_printDigits_39 rfl ?_
          refine iv_isub hx hb dPa_printDigits_40 ?_
          refine iv_icmp_ne (tgt := 50) hx hb dPa_printDigits_41 (by decide) ⟨by omega, by omega⟩ ⟨by omega, by omega⟩ (fun hc41 => ?_) (fun hc41 => ?_)
          · refine lv_aload_n hx hb dPa_printDigits_50 rfl (lv_at hl 1 rfl) ?_
            refine lv_bipush (v := iI 48) hx hb dPa_printDigits_51 (by decide) ?_
            refine lv_aload_n hx hb dPa_printDigits_53 rfl (lv_at hl 2 rfl) ?_
            refine va_getN (D := (dC, dI)) (ci := 4) (v := .ref w) (C := "MacroReckoner$Value") (T := TVa) (N := 6) hx hb hts inVa hown hK hP 2 rfl rfl 1 (by decide) (va_Nw.use rfl (hX.1 ("MacroReckoner$Paper", 31, "MacroReckoner$Value", "whole", "LMacroReckoner$Whole;", "MacroReckoner") (List.mem_of_getElem? (i := 11) rfl))) (fun _ h9 => h9) rfl dPa_printDigits_54 ?_
            refine lv_iload_n hx hb dPa_printDigits_57 rfl (lv_at hl 0 rfl) ?_
            refine cv_i (va_runV (C := "MacroReckoner$Whole") (As := [.int (iI q)]) (rest := [.int (iI 48), .ref pa]) ⟨hx, hb, hml, hown, hts⟩ (cWh_digit l dC dI dA dS w g F u N q (by exact hW) (by omega) H.size) (cwV 1 hts (gdV wt3_233 wt3_234 wt3_235 wt1_5 wt3_236) rfl rfl rfl ⟨rfl, by decide, by decide, by decide +kernel⟩ ⟨by decide, by decide⟩) (preV (q := ("MacroReckoner$Whole", TWh, 2)) hK hP hD hS hA (XC_ok dS) hX [4, 5] rfl rfl 0 rfl rfl) rfl rfl hl.1 rfl (lv_room (Nat.le_of_ble_eq_true rfl)) dPa_printDigits_58 ⟨Nat.zero_le _, Nat.zero_le _⟩) hP hD hS hA [4, 5] [0, 1, 2, 3] rfl (fun v_ => wPa dA pa pr P9 p9 (wVa dA x w cr t ng sc C ln (wWh dA w g F u []))) (fun _ => rfl) (wPa dA pa pr P9 p9 (wVa dA x w cr t ng sc C ln [])) rfl (fun _ => rfl) [pa, pr, x, cr, w, g] rfl (fun _ => rfl) (fun _ => rfl) (fun r58 u_ H locs hq58 hP hD hS => ?_)
            have hP : va_P (dC, dI) vwCl (wPa dA pa pr P9 p9 (wVa dA x w cr t ng sc C ln (wWh dA w g F u []))) H := hP
            have hD : va_D A (wPa dA pa pr P9 p9 (wVa dA x w cr t ng sc C ln (wWh dA w g F u []))) := hD
            have hq58 : r58 = N / PW 10 q % 10 := hq58
            have hdg : 48 + r58 = dg N q := by unfold dg; rw [hq58]
            have hdb := dg_b (N := N) (p := q)
            refine iv_iadd hx hb dPa_printDigits_61 ?_
            refine iv_i2c hx hb dPa_printDigits_62 (by omega) (by omega) ?_
            refine cv_v (va_runV (C := "MacroReckoner$Paper") (As := [.int (iI (48 + r58))]) (rest := []) ⟨hx, hb, hml, hown, hts⟩ (cPa_put l dC dI dA pa pr P9 p9 (48 + r58) (by have := hJ.2.2.1; omega) (by omega) H.size) (cwV 1 hts (gdV wt3_222 wt3_223 wt3_224 wt1_7 wt3_225) rfl rfl rfl ⟨rfl, by decide, by decide, by decide +kernel⟩ ⟨by decide, by decide⟩) (preV (q := ("MacroReckoner$Paper", TPa, 2)) hK hP hD hS hA XN_ok trivial [0, 1] rfl rfl 0 rfl rfl) rfl rfl hl.1 rfl (lv_room (Nat.le_of_ble_eq_true rfl)) dPa_printDigits_63 ⟨Nat.zero_le _, Nat.zero_le _⟩) hP hD hS hA [0, 1] [2, 3, 4, 5] rfl (fun v_ => wPa dA pa pr ((up P9 p9 (48 + r58))) ((p9 + 1)) (wVa dA x w cr t ng sc C ln (wWh dA w g F u []))) (fun _ => rfl) (wVa dA x w cr t ng sc C ln (wWh dA w g F u [])) rfl (fun _ => rfl) [pa, pr, x, cr, w, g] rfl (fun _ => rfl) (fun _ => rfl) (fun u_ H locs hq63 hP hD hS => ?_)
            have hP : va_P (dC, dI) vwCl (wPa dA pa pr ((up P9 p9 (48 + r58))) ((p9 + 1)) (wVa dA x w cr t ng sc C ln (wWh dA w g F u []))) H := hP
            have hD : va_D A (wPa dA pa pr ((up P9 p9 (48 + r58))) ((p9 + 1)) (wVa dA x w cr t ng sc C ln (wWh dA w g F u []))) := hD
            have hq63 : True := hq63
            refine lv_iinc (k := 0) (lv' := [(2, .int (iI (q - 1))), (0, .ref pa), (1, .ref x)]) (v := iI (q - 1)) hx hb dPa_printDigits_66 hl rfl (by rw [show (Int32.ofInt (-1)) = iI (-1) from rfl, ← iI_add]; congr 1) (by decide) rfl (fun ls hl => ?_)
            refine lv_goto (tgt := 30) hx hb dPa_printDigits_69 (by decide) ?_
            exact ih30 ((up P9 p9 (48 + r58))) ((p9 + 1)) (q - 1) H locs ls (by first | (rw [hdg]; exact pd_2 hc31 hc41 (by omega) hpl.1 (by omega) hz1 hz2 hz3) | (rw [hdg]; exact pd_1 hJ hc31 hc41 (by omega) hpl.1 (by omega))) (by omega) hP hD hS (lv_sub hl [0, 1, 2] rfl)
          · refine lv_aload_n hx hb dPa_printDigits_44 rfl (lv_at hl 1 rfl) ?_
            refine lv_bipush (v := iI 46) hx hb dPa_printDigits_45 (by decide) ?_
            refine cv_v (va_runV (C := "MacroReckoner$Paper") (As := [.int (iI 46)]) (rest := []) ⟨hx, hb, hml, hown, hts⟩ (cPa_put l dC dI dA pa pr P9 p9 46 (by have := hJ.2.2.1; omega) (by omega) H.size) (cwV 1 hts (gdV wt3_222 wt3_223 wt3_224 wt1_7 wt3_225) rfl rfl rfl ⟨rfl, by decide, by decide, by decide +kernel⟩ ⟨by decide, by decide⟩) (preV (q := ("MacroReckoner$Paper", TPa, 2)) hK hP hD hS hA XN_ok trivial [0, 1] rfl rfl 0 rfl rfl) rfl rfl hl.1 rfl (lv_room (Nat.le_of_ble_eq_true rfl)) dPa_printDigits_47 ⟨Nat.zero_le _, Nat.zero_le _⟩) hP hD hS hA [0, 1] [2, 3, 4, 5] rfl (fun v_ => wPa dA pa pr ((up P9 p9 46)) ((p9 + 1)) (wVa dA x w cr t ng sc C ln (wWh dA w g F u []))) (fun _ => rfl) (wVa dA x w cr t ng sc C ln (wWh dA w g F u [])) rfl (fun _ => rfl) [pa, pr, x, cr, w, g] rfl (fun _ => rfl) (fun _ => rfl) (fun u_ H locs hq47 hP hD hS => ?_)
            have hP : va_P (dC, dI) vwCl (wPa dA pa pr ((up P9 p9 46)) ((p9 + 1)) (wVa dA x w cr t ng sc C ln (wWh dA w g F u []))) H := hP
            have hD : va_D A (wPa dA pa pr ((up P9 p9 46)) ((p9 + 1)) (wVa dA x w cr t ng sc C ln (wWh dA w g F u []))) := hD
            have hq47 : True := hq47
            obtain ⟨hz1, hz2, hz3⟩ := pd_p hJ hc31 hc41 (by omega) hpl.1 (by omega)
            refine lv_aload_n hx hb dPa_printDigits_50 rfl (lv_at hl 1 rfl) ?_
            refine lv_bipush (v := iI 48) hx hb dPa_printDigits_51 (by decide) ?_
            refine lv_aload_n hx hb dPa_printDigits_53 rfl (lv_at hl 2 rfl) ?_
            refine va_getN (D := (dC, dI)) (ci := 4) (v := .ref w) (C := "MacroReckoner$Value") (T := TVa) (N := 6) hx hb hts inVa hown hK hP 2 rfl rfl 1 (by decide) (va_Nw.use rfl (hX.1 ("MacroReckoner$Paper", 31, "MacroReckoner$Value", "whole", "LMacroReckoner$Whole;", "MacroReckoner") (List.mem_of_getElem? (i := 11) rfl))) (fun _ h9 => h9) rfl dPa_printDigits_54 ?_
            refine lv_iload_n hx hb dPa_printDigits_57 rfl (lv_at hl 0 rfl) ?_
            refine cv_i (va_runV (C := "MacroReckoner$Whole") (As := [.int (iI q)]) (rest := [.int (iI 48), .ref pa]) ⟨hx, hb, hml, hown, hts⟩ (cWh_digit l dC dI dA dS w g F u N q (by exact hW) (by omega) H.size) (cwV 1 hts (gdV wt3_233 wt3_234 wt3_235 wt1_5 wt3_236) rfl rfl rfl ⟨rfl, by decide, by decide, by decide +kernel⟩ ⟨by decide, by decide⟩) (preV (q := ("MacroReckoner$Whole", TWh, 2)) hK hP hD hS hA (XC_ok dS) hX [4, 5] rfl rfl 0 rfl rfl) rfl rfl hl.1 rfl (lv_room (Nat.le_of_ble_eq_true rfl)) dPa_printDigits_58 ⟨Nat.zero_le _, Nat.zero_le _⟩) hP hD hS hA [4, 5] [0, 1, 2, 3] rfl (fun v_ => wPa dA pa pr ((up P9 p9 46)) ((p9 + 1)) (wVa dA x w cr t ng sc C ln (wWh dA w g F u []))) (fun _ => rfl) (wPa dA pa pr ((up P9 p9 46)) ((p9 + 1)) (wVa dA x w cr t ng sc C ln [])) rfl (fun _ => rfl) [pa, pr, x, cr, w, g] rfl (fun _ => rfl) (fun _ => rfl) (fun r58 u_ H locs hq58 hP hD hS => ?_)
            have hP : va_P (dC, dI) vwCl (wPa dA pa pr ((up P9 p9 46)) ((p9 + 1)) (wVa dA x w cr t ng sc C ln (wWh dA w g F u []))) H := hP
            have hD : va_D A (wPa dA pa pr ((up P9 p9 46)) ((p9 + 1)) (wVa dA x w cr t ng sc C ln (wWh dA w g F u []))) := hD
            have hq58 : r58 = N / PW 10 q % 10 := hq58
            have hdg : 48 + r58 = dg N q := by unfold dg; rw [hq58]
            have hdb := dg_b (N := N) (p := q)
            refine iv_iadd hx hb dPa_printDigits_61 ?_
            refine iv_i2c hx hb dPa_printDigits_62 (by omega) (by omega) ?_
            refine cv_v (va_runV (C := "MacroReckoner$Paper") (As := [.int (iI (48 + r58))]) (rest := []) ⟨hx, hb, hml, hown, hts⟩ (cPa_put l dC dI dA pa pr (((up P9 p9 46))) (((p9 + 1))) (48 + r58) (by have := hJ.2.2.1; omega) (by omega) H.size) (cwV 1 hts (gdV wt3_222 wt3_223 wt3_224 wt1_7 wt3_225) rfl rfl rfl ⟨rfl, by decide, by decide, by decide +kernel⟩ ⟨by decide, by decide⟩) (preV (q := ("MacroReckoner$Paper", TPa, 2)) hK hP hD hS hA XN_ok trivial [0, 1] rfl rfl 0 rfl rfl) rfl rfl hl.1 rfl (lv_room (Nat.le_of_ble_eq_true rfl)) dPa_printDigits_63 ⟨Nat.zero_le _, Nat.zero_le _⟩) hP hD hS hA [0, 1] [2, 3, 4, 5] rfl (fun v_ => wPa dA pa pr ((up (((up P9 p9 46))) (((p9 + 1))) (48 + r58))) (((((p9 + 1))) + 1)) (wVa dA x w cr t ng sc C ln (wWh dA w g F u []))) (fun _ => rfl) (wVa dA x w cr t ng sc C ln (wWh dA w g F u [])) rfl (fun _ => rfl) [pa, pr, x, cr, w, g] rfl (fun _ => rfl) (fun _ => rfl) (fun u_ H locs hq63 hP hD hS => ?_)
            have hP : va_P (dC, dI) vwCl (wPa dA pa pr ((up (((up P9 p9 46))) (((p9 + 1))) (48 + r58))) (((((p9 + 1))) + 1)) (wVa dA x w cr t ng sc C ln (wWh dA w g F u []))) H := hP
            have hD : va_D A (wPa dA pa pr ((up (((up P9 p9 46))) (((p9 + 1))) (48 + r58))) (((((p9 + 1))) + 1)) (wVa dA x w cr t ng sc C ln (wWh dA w g F u []))) := hD
            have hq63 : True := hq63
            refine lv_iinc (k := 0) (lv' := [(2, .int (iI (q - 1))), (0, .ref pa), (1, .ref x)]) (v := iI (q - 1)) hx hb dPa_printDigits_66 hl rfl (by rw [show (Int32.ofInt (-1)) = iI (-1) from rfl, ← iI_add]; congr 1) (by decide) rfl (fun ls hl => ?_)
            refine lv_goto (tgt := 30) hx hb dPa_printDigits_69 (by decide) ?_
            exact ih30 ((up (((up P9 p9 46))) (((p9 + 1))) (48 + r58))) (((((p9 + 1))) + 1)) (q - 1) H locs ls (by first | (rw [hdg]; exact pd_2 hc31 hc41 (by omega) hpl.1 (by omega) hz1 hz2 hz3) | (rw [hdg]; exact pd_1 hJ hc31 hc41 (by omega) hpl.1 (by omega))) (by omega) hP hD hS (lv_sub hl [0, 1, 2] rfl)
    exact L30 _ ((up P pl 45)) ((pl + 1)) ((max r17 sc) - 1) H locs ls (by first | exact ⟨by omega, by omega, by omega, fun j x => up_n (by omega), fun j x y => by rw [show pl + j = pl by omega, up_s, prQ_s (by omega)]⟩ | exact ⟨by omega, by omega, by omega, fun _ _ => rfl, fun j x y => by omega⟩) (Nat.lt_succ_self _) hP hD hS (lv_sub hl [0, 1, 2] rfl)

theorem dPa_print_0 : decode prog_3_method_5_code 0 = .ok (.aload_n 1, 1) := by decide +kernel
theorem dPa_print_1 : decode prog_3_method_5_code 1 = .ok (.getfield 19, 3) := by decide +kernel
theorem dPa_print_4 : decode prog_3_method_5_code 4 = .ok (.ifCond .eq 32, 3) := by decide +kernel
theorem dPa_print_7 : decode prog_3_method_5_code 7 = .ok (.iconst 0, 1) := by decide +kernel
theorem dPa_print_8 : decode prog_3_method_5_code 8 = .ok (.istore_n 2, 1) := by decide +kernel
theorem dPa_print_9 : decode prog_3_method_5_code 9 = .ok (.iload_n 2, 1) := by decide +kernel
theorem dPa_print_10 : decode prog_3_method_5_code 10 = .ok (.aload_n 1, 1) := by decide +kernel
theorem dPa_print_11 : decode prog_3_method_5_code 11 = .ok (.getfield 25, 3) := by decide +kernel
theorem dPa_print_14 : decode prog_3_method_5_code 14 = .ok (.if_icmp .ge 19, 3) := by decide +kernel
theorem dPa_print_17 : decode prog_3_method_5_code 17 = .ok (.aload_n 0, 1) := by decide +kernel
theorem dPa_print_18 : decode prog_3_method_5_code 18 = .ok (.aload_n 1, 1) := by decide +kernel
theorem dPa_print_19 : decode prog_3_method_5_code 19 = .ok (.getfield 26, 3) := by decide +kernel
theorem dPa_print_22 : decode prog_3_method_5_code 22 = .ok (.iload_n 2, 1) := by decide +kernel
theorem dPa_print_23 : decode prog_3_method_5_code 23 = .ok (.caload, 1) := by decide +kernel
theorem dPa_print_24 : decode prog_3_method_5_code 24 = .ok (.invokevirtual 27, 3) := by decide +kernel
theorem dPa_print_27 : decode prog_3_method_5_code 27 = .ok (.iinc 2 1, 3) := by decide +kernel
theorem dPa_print_30 : decode prog_3_method_5_code 30 = .ok (.goto (-21), 3) := by decide +kernel
theorem dPa_print_33 : decode prog_3_method_5_code 33 = .ok (.goto 27, 3) := by decide +kernel
theorem dPa_print_36 : decode prog_3_method_5_code 36 = .ok (.aload_n 1, 1) := by decide +kernel
theorem dPa_print_37 : decode prog_3_method_5_code 37 = .ok (.getfield 31, 3) := by decide +kernel
theorem dPa_print_40 : decode prog_3_method_5_code 40 = .ok (.invokevirtual 35, 3) := by decide +kernel
theorem dPa_print_43 : decode prog_3_method_5_code 43 = .ok (.ifCond .eq 12, 3) := by decide +kernel
theorem dPa_print_46 : decode prog_3_method_5_code 46 = .ok (.aload_n 0, 1) := by decide +kernel
theorem dPa_print_47 : decode prog_3_method_5_code 47 = .ok (.bipush 48, 2) := by decide +kernel
theorem dPa_print_49 : decode prog_3_method_5_code 49 = .ok (.invokevirtual 27, 3) := by decide +kernel
theorem dPa_print_52 : decode prog_3_method_5_code 52 = .ok (.goto 8, 3) := by decide +kernel
theorem dPa_print_55 : decode prog_3_method_5_code 55 = .ok (.aload_n 0, 1) := by decide +kernel
theorem dPa_print_56 : decode prog_3_method_5_code 56 = .ok (.aload_n 1, 1) := by decide +kernel
theorem dPa_print_57 : decode prog_3_method_5_code 57 = .ok (.invokevirtual 41, 3) := by decide +kernel
theorem dPa_print_60 : decode prog_3_method_5_code 60 = .ok (.return_, 1) := by decide +kernel
abbrev qPa_print (dC : Nat → ClassId) (dI : Nat → Nat → Nat) (dA : Nat → ClassId) (dS : Nat → Nat) (pa : Nat) (pr : Nat) (P : Int → Int) (pl : Int) (x : Nat) (w : Nat) (cr : Nat) (t : Int) (ng : Int) (sc : Int) (C : Int → Int) (ln : Int) (g : Nat) (F : Int → Int) (u : Int) (N : Int) (kd : Int) (pt : Int) (len : Int) (A : Nat → Prop) : Array Value → State → Outcome → State → Prop := QV (dC, dI) vwCl (tyA dA) (fun (v_ : (Int → Int)) => (∀ j, j < pl → v_ j = P j) ∧ ∀ j, 0 ≤ j → j < len → v_ (pl + j) = prT t ng sc C N (max kd sc) j) (fun (v_ : (Int → Int)) => wPa dA pa pr v_ (pl + len) (wVa dA x w cr t ng sc C ln (wWh dA w g F u []))) A
abbrev rmPa_print : Room := { frames := 2, cells := 0, slots := 0, locals := 45 }
set_option maxRecDepth 100000 in
set_option maxHeartbeats 1000000 in
theorem cPa_print (l : Launch) (dC : Nat → ClassId) (dI : Nat → Nat → Nat) (dA : Nat → ClassId) (dS : Nat → Nat) (pa : Nat) (pr : Nat) (P : Int → Int) (pl : Int) (x : Nat) (w : Nat) (cr : Nat) (t : Int) (ng : Int) (sc : Int) (C : Int → Int) (ln : Int) (g : Nat) (F : Int → Int) (u : Int) (N : Int) (kd : Int) (pt : Int) (len : Int) (hV : VV t ng sc ln C N) (hW : WR F u N) (hkd : DL N kd) (hpt : (0 < sc ∧ pt = 1) ∨ (sc = 0 ∧ pt = 0)) (hlen : (t = 1 ∧ len = ln) ∨ (t = 0 ∧ N = 0 ∧ len = 1) ∨ (t = 0 ∧ N ≠ 0 ∧ len = ng + max kd sc + pt)) (hpl : 0 ≤ pl ∧ pl + len ≤ 200) (sz : Nat) : Met l yPa_print wsPa_print rmPa_print (PC (dC, dI) vwCl (tyA dA) (XC dS) [.ref pa, .ref x] (wPa dA pa pr P pl (wVa dA x w cr t ng sc C ln (wWh dA w g F u []))) sz) (qPa_print dC dI dA dS pa pr P pl x w cr t ng sc C ln g F u N kd pt len (va_A (wPa dA pa pr P pl (wVa dA x w cr t ng sc C ln (wWh dA w g F u []))) sz)) 0 0 (va_A (wPa dA pa pr P pl (wVa dA x w cr t ng sc C ln (wWh dA w g F u []))) sz) := by
  refine met_of (cc := prog_3_method_5_code) (maxL := 3) (ret := none) (Qc := qPa_print dC dI dA dS pa pr P pl x w cr t ng sc C ln g F u N kd pt len) (XC_ok dS) (by decide) rfl (Nat.le_of_ble_eq_true rfl) ?_
  intro p e s m below meth c ls A hx hb hr hml hown hts hlocks hnm hK hP hD hA hX hS hl
  have hl : lv_has ls 3 [(0, .ref pa), (1, .ref x)] := hl
  have hown : s.vm.findClass "MacroReckoner$Paper" = some m.cls := hown
  obtain ⟨H, hH⟩ : ∃ H : Heap, H = s.heap := ⟨_, rfl⟩
  obtain ⟨locs, hlo⟩ : ∃ L : List Loc, L = [] := ⟨_, rfl⟩
  have hP : va_P (dC, dI) vwCl (wPa dA pa pr P pl (wVa dA x w cr t ng sc C ln (wWh dA w g F u []))) H := hH ▸ hP
  have hS : va_S A s.heap H locs := by rw [hH, hlo]; exact hS
  suffices hgo : W p l e rmPa_print s m [.ref pa, .ref x].toArray below meth c H locs 0 0 (MQ below (qPa_print dC dI dA dS pa pr P pl x w cr t ng sc C ln g F u N kd pt len A) [.ref pa, .ref x].toArray s 0 0 A) (F0 m 0 ls []) by rw [hH, hlo] at hgo; exact hgo
  clear hH hlo
  have hV0 := hV
  obtain ⟨ht2, hng2, hsc2, hln2, hch2, hA1, hA2, hA3, hA4⟩ := hV
  have hkd2 := DL_le hkd hA4 (by decide)
  have hkd0 := hkd.1
  refine lv_aload_n hx hb dPa_print_0 rfl (lv_at hl 1 rfl) ?_
  refine va_getN (D := (dC, dI)) (ci := 4) (v := .int (iI t)) (C := "MacroReckoner$Value") (T := TVa) (N := 6) hx hb hts inVa hown hK hP 2 rfl rfl 0 (by decide) (va_Nw.use rfl (hX.1 ("MacroReckoner$Paper", 19, "MacroReckoner$Value", "text", "Z", "MacroReckoner") (List.mem_of_getElem? (i := 8) rfl))) (fun _ h9 => h9) rfl dPa_print_1 ?_
  refine iv_if_eq (tgt := 36) hx hb dPa_print_4 (by decide) ⟨by omega, by omega⟩ (fun hc4 => ?_) (fun hc4 => ?_)
  · refine lv_aload_n hx hb dPa_print_36 rfl (lv_at hl 1 rfl) ?_
    refine va_getN (D := (dC, dI)) (ci := 4) (v := .ref w) (C := "MacroReckoner$Value") (T := TVa) (N := 6) hx hb hts inVa hown hK hP 2 rfl rfl 1 (by decide) (va_Nw.use rfl (hX.1 ("MacroReckoner$Paper", 31, "MacroReckoner$Value", "whole", "LMacroReckoner$Whole;", "MacroReckoner") (List.mem_of_getElem? (i := 11) rfl))) (fun _ h9 => h9) rfl dPa_print_37 ?_
    refine cv_i (va_runV (C := "MacroReckoner$Whole") (As := []) (rest := []) ⟨hx, hb, hml, hown, hts⟩ (cWh_isZero l dC dI dA w g F u N (by exact hW) H.size) (cwV 0 hts (gdV wt3_226 wt3_23 wt3_24 wt1_5 wt3_25) rfl rfl rfl ⟨rfl, by decide, by decide, by decide +kernel⟩ ⟨by decide, by decide⟩) (preV (q := ("MacroReckoner$Whole", TWh, 2)) hK hP hD hS hA XN_ok trivial [4, 5] rfl rfl 0 rfl rfl) rfl rfl hl.1 rfl (lv_room (Nat.le_of_ble_eq_true rfl)) dPa_print_40 ⟨Nat.zero_le _, Nat.zero_le _⟩) hP hD hS hA [4, 5] [0, 1, 2, 3] rfl (fun v_ => wPa dA pa pr P pl (wVa dA x w cr t ng sc C ln (wWh dA w g F u []))) (fun _ => rfl) (wPa dA pa pr P pl (wVa dA x w cr t ng sc C ln [])) rfl (fun _ => rfl) [pa, pr, x, cr, w, g] rfl (fun _ => rfl) (fun _ => rfl) (fun r40 u_ H locs hq40 hP hD hS => ?_)
    have hP : va_P (dC, dI) vwCl (wPa dA pa pr P pl (wVa dA x w cr t ng sc C ln (wWh dA w g F u []))) H := hP
    have hD : va_D A (wPa dA pa pr P pl (wVa dA x w cr t ng sc C ln (wWh dA w g F u []))) := hD
    have hq40 : (r40 = 1 ∧ N = 0) ∨ (r40 = 0 ∧ N ≠ 0) := hq40
    refine iv_if_eq (tgt := 55) hx hb dPa_print_43 (by decide) ⟨by omega, by omega⟩ (fun hc43 => ?_) (fun hc43 => ?_)
    · refine lv_aload_n hx hb dPa_print_55 rfl (lv_at hl 0 rfl) ?_
      refine lv_aload_n hx hb dPa_print_56 rfl (lv_at hl 1 rfl) ?_
      refine cv_v (va_runV (C := "MacroReckoner$Paper") (As := [.ref x]) (rest := []) ⟨hx, hb, hml, hown, hts⟩ (cPa_printDigits l dC dI dA dS pa pr P pl x w cr t ng sc C ln g F u N kd pt (by exact hV0) (by exact hW) (by exact hkd) (by exact hpt) (by omega) H.size) (cwV 1 hts (gdV wt3_227 wt3_229 ws2_13 wt1_7 wt3_230) rfl rfl rfl ⟨rfl, by decide, by decide, by decide +kernel⟩ ⟨by decide, by decide⟩) (preV (q := ("MacroReckoner$Paper", TPa, 2)) hK hP hD hS hA (XC_ok dS) hX [0, 1, 2, 3, 4, 5] rfl rfl 0 rfl rfl) rfl rfl hl.1 rfl (lv_room (Nat.le_of_ble_eq_true rfl)) dPa_print_57 ⟨Nat.zero_le _, Nat.zero_le _⟩) hP hD hS hA [0, 1, 2, 3, 4, 5] [] rfl (fun v_ => wPa dA pa pr v_ ((pl + (ng + max kd sc + pt))) (wVa dA x w cr t ng sc C ln (wWh dA w g F u []))) (fun _ => rfl) ([] : va_W) rfl (fun _ => rfl) [pa, pr, x, cr, w, g] rfl (fun _ => rfl) (fun _ => rfl) (fun u_ H locs hq57 hP hD hS => ?_)
      obtain ⟨P7, rfl⟩ : ∃ z, z = u_ := ⟨_, rfl⟩
      have hP : va_P (dC, dI) vwCl (wPa dA pa pr P7 ((pl + (ng + max kd sc + pt))) (wVa dA x w cr t ng sc C ln (wWh dA w g F u []))) H := hP
      have hD : va_D A (wPa dA pa pr P7 ((pl + (ng + max kd sc + pt))) (wVa dA x w cr t ng sc C ln (wWh dA w g F u []))) := hD
      have hq57 : (∀ j, j < pl → P7 j = P j) ∧ ∀ j, 0 ≤ j → j < ng + max kd sc + pt → P7 (pl + j) = prQ ng sc N (max kd sc) j := hq57
      rw [show pl + (ng + max kd sc + pt) = pl + len by omega] at hP hD
      exact rt_v hx hb hr hlocks hK hS dPa_print_60 (P7) hP hD (show (∀ j, j < pl → P7 j = P j) ∧ ∀ j, 0 ≤ j → j < len → P7 (pl + j) = prT t ng sc C N (max kd sc) j from by first | exact ⟨hj1, fun j x y => by unfold prT; rw [if_pos (by omega)]; exact hj2 j x (by omega)⟩ | exact ⟨fun j x => up_n (by omega), fun j x y => by unfold prT; rw [if_neg (by omega), if_pos (by omega), show pl + j = pl by omega, up_s]⟩ | exact ⟨hq57.1, fun j x y => by unfold prT; rw [if_neg (by omega), if_neg (by omega)]; exact hq57.2 j x (by omega)⟩)
    · refine lv_aload_n hx hb dPa_print_46 rfl (lv_at hl 0 rfl) ?_
      refine lv_bipush (v := iI 48) hx hb dPa_print_47 (by decide) ?_
      refine cv_v (va_runV (C := "MacroReckoner$Paper") (As := [.int (iI 48)]) (rest := []) ⟨hx, hb, hml, hown, hts⟩ (cPa_put l dC dI dA pa pr P pl 48 (by omega) (by omega) H.size) (cwV 1 hts (gdV wt3_222 wt3_223 wt3_224 wt1_7 wt3_225) rfl rfl rfl ⟨rfl, by decide, by decide, by decide +kernel⟩ ⟨by decide, by decide⟩) (preV (q := ("MacroReckoner$Paper", TPa, 2)) hK hP hD hS hA XN_ok trivial [0, 1] rfl rfl 0 rfl rfl) rfl rfl hl.1 rfl (lv_room (Nat.le_of_ble_eq_true rfl)) dPa_print_49 ⟨Nat.zero_le _, Nat.zero_le _⟩) hP hD hS hA [0, 1] [2, 3, 4, 5] rfl (fun v_ => wPa dA pa pr ((up P pl 48)) ((pl + 1)) (wVa dA x w cr t ng sc C ln (wWh dA w g F u []))) (fun _ => rfl) (wVa dA x w cr t ng sc C ln (wWh dA w g F u [])) rfl (fun _ => rfl) [pa, pr, x, cr, w, g] rfl (fun _ => rfl) (fun _ => rfl) (fun u_ H locs hq49 hP hD hS => ?_)
      have hP : va_P (dC, dI) vwCl (wPa dA pa pr ((up P pl 48)) ((pl + 1)) (wVa dA x w cr t ng sc C ln (wWh dA w g F u []))) H := hP
      have hD : va_D A (wPa dA pa pr ((up P pl 48)) ((pl + 1)) (wVa dA x w cr t ng sc C ln (wWh dA w g F u []))) := hD
      have hq49 : True := hq49
      refine lv_goto (tgt := 60) hx hb dPa_print_52 (by decide) ?_
      rw [show pl + 1 = pl + len by omega] at hP hD
      exact rt_v hx hb hr hlocks hK hS dPa_print_60 ((up P pl 48)) hP hD (show (∀ j, j < pl → ((up P pl 48)) j = P j) ∧ ∀ j, 0 ≤ j → j < len → ((up P pl 48)) (pl + j) = prT t ng sc C N (max kd sc) j from by first | exact ⟨hj1, fun j x y => by unfold prT; rw [if_pos (by omega)]; exact hj2 j x (by omega)⟩ | exact ⟨fun j x => up_n (by omega), fun j x y => by unfold prT; rw [if_neg (by omega), if_pos (by omega), show pl + j = pl by omega, up_s]⟩ | exact ⟨hq57.1, fun j x y => by unfold prT; rw [if_neg (by omega), if_neg (by omega)]; exact hq57.2 j x (by omega)⟩)
  · refine lv_iconst (v := iI 0) hx hb dPa_print_7 rfl ?_
    refine lv_istore_n (lv' := [(2, .int (iI 0)), (0, .ref pa), (1, .ref x)]) hx hb dPa_print_8 rfl hl (by decide) rfl (fun ls hl => ?_)
    have L9 : ∀ (n : Nat) (P9 : Int → Int) (p9 : Int) (i : Int) (H : Heap) (locs : List Loc) (ls : Array Slot), (0 ≤ i ∧ i ≤ ln) → (p9 = pl + i) → (∀ j, j < pl → P9 j = P j) → (∀ j, 0 ≤ j → j < i → P9 (pl + j) = C j) → (ln - i).toNat < n → va_P (dC, dI) vwCl (wPa dA pa pr P9 p9 (wVa dA x w cr t ng sc C ln (wWh dA w g F u []))) H → va_D A (wPa dA pa pr P9 p9 (wVa dA x w cr t ng sc C ln (wWh dA w g F u []))) → va_S A s.heap H locs → lv_has ls 3 [(2, .int (iI i)), (0, .ref pa), (1, .ref x)] → W p l e rmPa_print s m [.ref pa, .ref x].toArray below meth c H locs 0 0 (MQ below (qPa_print dC dI dA dS pa pr P pl x w cr t ng sc C ln g F u N kd pt len A) [.ref pa, .ref x].toArray s 0 0 A) (F0 m 9 ls []) := by
      intro n
      induction n with
      | zero => intro P9 p9 i H locs ls hi hp9 hj1 hj2 hn; omega
      | succ n ih =>
        intro P9 p9 i H locs ls hi hp9 hj1 hj2 hn hP hD hS hl
        have ih9 := ih
        refine lv_iload_n hx hb dPa_print_9 rfl (lv_at hl 0 rfl) ?_
        refine lv_aload_n hx hb dPa_print_10 rfl (lv_at hl 2 rfl) ?_
        refine va_getN (D := (dC, dI)) (ci := 4) (v := .int (iI ln)) (C := "MacroReckoner$Value") (T := TVa) (N := 6) hx hb hts inVa hown hK hP 2 rfl rfl 5 (by decide) (va_Nw.use rfl (hX.1 ("MacroReckoner$Paper", 25, "MacroReckoner$Value", "length", "I", "MacroReckoner") (List.mem_of_getElem? (i := 21) rfl))) (fun _ h9 => h9) rfl dPa_print_11 ?_
        refine iv_icmp_ge (tgt := 33) hx hb dPa_print_14 (by decide) ⟨by omega, by omega⟩ ⟨by omega, by omega⟩ (fun hc14 => ?_) (fun hc14 => ?_)
        · refine lv_goto (tgt := 60) hx hb dPa_print_33 (by decide) ?_
          rw [show p9 = pl + len by omega] at hP hD
          exact rt_v hx hb hr hlocks hK hS dPa_print_60 (P9) hP hD (show (∀ j, j < pl → P9 j = P j) ∧ ∀ j, 0 ≤ j → j < len → P9 (pl + j) = prT t ng sc C N (max kd sc) j from by first | exact ⟨hj1, fun j x y => by unfold prT; rw [if_pos (by omega)]; exact hj2 j x (by omega)⟩ | exact ⟨fun j x => up_n (by omega), fun j x y => by unfold prT; rw [if_neg (by omega), if_pos (by omega), show pl + j = pl by omega, up_s]⟩ | exact ⟨hq57.1, fun j x y => by unfold prT; rw [if_neg (by omega), if_neg (by omega)]; exact hq57.2 j x (by omega)⟩)
        · refine lv_aload_n hx hb dPa_print_17 rfl (lv_at hl 1 rfl) ?_
          refine lv_aload_n hx hb dPa_print_18 rfl (lv_at hl 2 rfl) ?_
          refine va_getN (D := (dC, dI)) (ci := 4) (v := .ref cr) (C := "MacroReckoner$Value") (T := TVa) (N := 6) hx hb hts inVa hown hK hP 2 rfl rfl 4 (by decide) (va_Nw.use rfl (hX.1 ("MacroReckoner$Paper", 26, "MacroReckoner$Value", "row", "[C", "MacroReckoner") (List.mem_of_getElem? (i := 19) rfl))) (fun _ h9 => h9) rfl dPa_print_19 ?_
          refine lv_iload_n hx hb dPa_print_22 rfl (lv_at hl 0 rfl) ?_
          have hci := hch2 i hi.1 hc14
          refine iv_cald hx hb hK hP 3 1 rfl rfl (by decide) dPa_print_23 (by omega) (by omega) ?_
          refine cv_v (va_runV (C := "MacroReckoner$Paper") (As := [.int (iI (C i))]) (rest := []) ⟨hx, hb, hml, hown, hts⟩ (cPa_put l dC dI dA pa pr P9 p9 (C i) (by omega) (by omega) H.size) (cwV 1 hts (gdV wt3_222 wt3_223 wt3_224 wt1_7 wt3_225) rfl rfl rfl ⟨rfl, by decide, by decide, by decide +kernel⟩ ⟨by decide, by decide⟩) (preV (q := ("MacroReckoner$Paper", TPa, 2)) hK hP hD hS hA XN_ok trivial [0, 1] rfl rfl 0 rfl rfl) rfl rfl hl.1 rfl (lv_room (Nat.le_of_ble_eq_true rfl)) dPa_print_24 ⟨Nat.zero_le _, Nat.zero_le _⟩) hP hD hS hA [0, 1] [2, 3, 4, 5] rfl (fun v_ => wPa dA pa pr ((up P9 p9 (C i))) ((p9 + 1)) (wVa dA x w cr t ng sc C ln (wWh dA w g F u []))) (fun _ => rfl) (wVa dA x w cr t ng sc C ln (wWh dA w g F u [])) rfl (fun _ => rfl) [pa, pr, x, cr, w, g] rfl (fun _ => rfl) (fun _ => rfl) (fun u_ H locs hq24 hP hD hS => ?_)
          have hP : va_P (dC, dI) vwCl (wPa dA pa pr ((up P9 p9 (C i))) ((p9 + 1)) (wVa dA x w cr t ng sc C ln (wWh dA w g F u []))) H := hP
          have hD : va_D A (wPa dA pa pr ((up P9 p9 (C i))) ((p9 + 1)) (wVa dA x w cr t ng sc C ln (wWh dA w g F u []))) := hD
          have hq24 : True := hq24
          refine lv_iinc (k := 0) (lv' := [(2, .int (iI (i + 1))), (0, .ref pa), (1, .ref x)]) (v := iI (i + 1)) hx hb dPa_print_27 hl rfl (iI_add _ _).symm (by decide) rfl (fun ls hl => ?_)
          refine lv_goto (tgt := 9) hx hb dPa_print_30 (by decide) ?_
          exact ih9 ((up P9 p9 (C i))) ((p9 + 1)) (i + 1) H locs ls (by omega) (by omega) (by intro j x; rw [up_n (by omega)]; exact hj1 j x) (by intro j x y; by_cases z : j = i; rw [z, ← hp9, up_s]; rw [up_n (by omega)]; exact hj2 j x (by omega)) (by omega) hP hD hS (lv_sub hl [0, 1, 2] rfl)
    exact L9 _ P pl 0 H locs ls (by omega) (by omega) (by intro j x; rfl) (by intro j x y; omega) (Nat.lt_succ_self _) hP hD hS (lv_sub hl [0, 1, 2] rfl)
