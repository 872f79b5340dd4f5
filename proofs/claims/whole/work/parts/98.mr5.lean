theorem dMr_beginText_0 : decode prog_1_method_35_code 0 = .ok (.aload_n 1, 1) := by decide +kernel
theorem dMr_beginText_1 : decode prog_1_method_35_code 1 = .ok (.getfield 286, 3) := by decide +kernel
theorem dMr_beginText_4 : decode prog_1_method_35_code 4 = .ok (.iconst 0, 1) := by decide +kernel
theorem dMr_beginText_5 : decode prog_1_method_35_code 5 = .ok (.aload_n 1, 1) := by decide +kernel
theorem dMr_beginText_6 : decode prog_1_method_35_code 6 = .ok (.getfield 278, 3) := by decide +kernel
theorem dMr_beginText_9 : decode prog_1_method_35_code 9 = .ok (.invokestatic 287, 3) := by decide +kernel
theorem dMr_beginText_12 : decode prog_1_method_35_code 12 = .ok (.ifCond .eq 5, 3) := by decide +kernel
theorem dMr_beginText_15 : decode prog_1_method_35_code 15 = .ok (.iconst 0, 1) := by decide +kernel
theorem dMr_beginText_16 : decode prog_1_method_35_code 16 = .ok (.ireturn, 1) := by decide +kernel
theorem dMr_beginText_17 : decode prog_1_method_35_code 17 = .ok (.aload_n 0, 1) := by decide +kernel
theorem dMr_beginText_18 : decode prog_1_method_35_code 18 = .ok (.invokevirtual 104, 3) := by decide +kernel
theorem dMr_beginText_21 : decode prog_1_method_35_code 21 = .ok (.aload_n 0, 1) := by decide +kernel
theorem dMr_beginText_22 : decode prog_1_method_35_code 22 = .ok (.getfield 22, 3) := by decide +kernel
theorem dMr_beginText_25 : decode prog_1_method_35_code 25 = .ok (.bipush 8, 2) := by decide +kernel
theorem dMr_beginText_27 : decode prog_1_method_35_code 27 = .ok (.if_icmp .ne 6, 3) := by decide +kernel
theorem dMr_beginText_30 : decode prog_1_method_35_code 30 = .ok (.bipush (-9), 2) := by decide +kernel
theorem dMr_beginText_32 : decode prog_1_method_35_code 32 = .ok (.ireturn, 1) := by decide +kernel
theorem dMr_beginText_33 : decode prog_1_method_35_code 33 = .ok (.aload_n 0, 1) := by decide +kernel
theorem dMr_beginText_34 : decode prog_1_method_35_code 34 = .ok (.getfield 18, 3) := by decide +kernel
theorem dMr_beginText_37 : decode prog_1_method_35_code 37 = .ok (.aload_n 0, 1) := by decide +kernel
theorem dMr_beginText_38 : decode prog_1_method_35_code 38 = .ok (.getfield 22, 3) := by decide +kernel
theorem dMr_beginText_41 : decode prog_1_method_35_code 41 = .ok (.aaload, 1) := by decide +kernel
theorem dMr_beginText_42 : decode prog_1_method_35_code 42 = .ok (.aload_n 1, 1) := by decide +kernel
theorem dMr_beginText_43 : decode prog_1_method_35_code 43 = .ok (.getfield 286, 3) := by decide +kernel
theorem dMr_beginText_46 : decode prog_1_method_35_code 46 = .ok (.aload_n 1, 1) := by decide +kernel
theorem dMr_beginText_47 : decode prog_1_method_35_code 47 = .ok (.getfield 278, 3) := by decide +kernel
theorem dMr_beginText_50 : decode prog_1_method_35_code 50 = .ok (.invokevirtual 291, 3) := by decide +kernel
theorem dMr_beginText_53 : decode prog_1_method_35_code 53 = .ok (.aload_n 0, 1) := by decide +kernel
theorem dMr_beginText_54 : decode prog_1_method_35_code 54 = .ok (.dup, 1) := by decide +kernel
theorem dMr_beginText_55 : decode prog_1_method_35_code 55 = .ok (.getfield 22, 3) := by decide +kernel
theorem dMr_beginText_58 : decode prog_1_method_35_code 58 = .ok (.iconst 1, 1) := by decide +kernel
theorem dMr_beginText_59 : decode prog_1_method_35_code 59 = .ok (.iadd, 1) := by decide +kernel
theorem dMr_beginText_60 : decode prog_1_method_35_code 60 = .ok (.putfield 22, 3) := by decide +kernel
theorem dMr_beginText_63 : decode prog_1_method_35_code 63 = .ok (.iconst 0, 1) := by decide +kernel
theorem dMr_beginText_64 : decode prog_1_method_35_code 64 = .ok (.ireturn, 1) := by decide +kernel
abbrev qMr_beginText (dC : Nat → ClassId) (dI : Nat → Nat → Nat) (dA : Nat → ClassId) (dS : Nat → Nat) (b : Nat) (tr : Int) (hg : Int) (wk : Int) (at_ : Int) (en : Int) (cm : Int) (rg : Int) (st0 : Int) (en0 : Int) (lg : Int) (tR : Int) (ngR : Int) (scR : Int) (lnR : Int) (uR : Int) (lu : Int) (ru : Int) (su : Int) (qu : Int) (pl : Int) (rv : Value) (si : Int → Nat) (D : Int → Int) (CR : Int → Int) (FR : Int → Int) (LF : Int → Int) (RF : Int → Int) (SF : Int → Int) (QF : Int → Int) (P : Int → Int) (vs : Nat → VS) (tp : Nat → TS) (st : AS) (xa : Th) (kx : Nat) (A : Nat → Prop) : Array Value → State → Outcome → State → Prop := QI (dC, dI) vwCl (tyA dA) (fun (r : Int) (v_ : Int × (Nat → TS)) => r = (begA st xa).1 ∧ CX v_.2 v_.1 (begA st xa).2) (fun (v_ : Int × (Nat → TS)) => wMr dA b v_.1 hg wk at_ en cm rg st0 en0 lg tR ngR scR lnR uR lu ru su qu pl rv si D CR FR LF RF SF QF P (tl0 dA b vs v_.2)) A
abbrev rmMr_beginText : Room := { frames := 3, cells := 0, slots := 0, locals := 82 }
set_option maxRecDepth 100000 in
set_option maxHeartbeats 1000000 in
theorem cMr_beginText (l : Launch) (dC : Nat → ClassId) (dI : Nat → Nat → Nat) (dA : Nat → ClassId) (dS : Nat → Nat) (b : Nat) (tr : Int) (hg : Int) (wk : Int) (at_ : Int) (en : Int) (cm : Int) (rg : Int) (st0 : Int) (en0 : Int) (lg : Int) (tR : Int) (ngR : Int) (scR : Int) (lnR : Int) (uR : Int) (lu : Int) (ru : Int) (su : Int) (qu : Int) (pl : Int) (rv : Value) (si : Int → Nat) (D : Int → Int) (CR : Int → Int) (FR : Int → Int) (LF : Int → Int) (RF : Int → Int) (SF : Int → Int) (QF : Int → Int) (P : Int → Int) (vs : Nat → VS) (tp : Nat → TS) (st : AS) (xa : Th) (kx : Nat) (hCX : CX tp tr st) (hkx : kx < 46) (hCR : CV (vs kx) xa) (hxt : xa.t = 1) (sz : Nat) : Met l yMr_beginText wsMr_beginText rmMr_beginText (PC (dC, dI) vwCl (tyA dA) (XC dS) [.ref b, .ref (b + 38 + 4 * kx)] (wMr dA b tr hg wk at_ en cm rg st0 en0 lg tR ngR scR lnR uR lu ru su qu pl rv si D CR FR LF RF SF QF P (tl0 dA b vs tp)) sz) (qMr_beginText dC dI dA dS b tr hg wk at_ en cm rg st0 en0 lg tR ngR scR lnR uR lu ru su qu pl rv si D CR FR LF RF SF QF P vs tp st xa kx (va_A (wMr dA b tr hg wk at_ en cm rg st0 en0 lg tR ngR scR lnR uR lu ru su qu pl rv si D CR FR LF RF SF QF P (tl0 dA b vs tp)) sz)) 0 0 (va_A (wMr dA b tr hg wk at_ en cm rg st0 en0 lg tR ngR scR lnR uR lu ru su qu pl rv si D CR FR LF RF SF QF P (tl0 dA b vs tp)) sz) := by
  refine met_of (cc := prog_1_method_35_code) (maxL := 2) (ret := (some .int)) (Qc := qMr_beginText dC dI dA dS b tr hg wk at_ en cm rg st0 en0 lg tR ngR scR lnR uR lu ru su qu pl rv si D CR FR LF RF SF QF P vs tp st xa kx) (XC_ok dS) (by decide) rfl (Nat.le_of_ble_eq_true rfl) ?_
  intro p e s m below meth c ls A hx hb hr hml hown hts hlocks hnm hK hP hD hA hX hS hl
  have hl : lv_has ls 2 [(0, .ref b), (1, .ref (b + 38 + 4 * kx))] := hl
  have hown : s.vm.findClass "MacroReckoner" = some m.cls := hown
  obtain ⟨H, hH⟩ : ∃ H : Heap, H = s.heap := ⟨_, rfl⟩
  obtain ⟨locs, hlo⟩ : ∃ L : List Loc, L = [] := ⟨_, rfl⟩
  have hP : va_P (dC, dI) vwCl (wMr dA b tr hg wk at_ en cm rg st0 en0 lg tR ngR scR lnR uR lu ru su qu pl rv si D CR FR LF RF SF QF P (tl0 dA b vs tp)) H := hH ▸ hP
  have hS : va_S A s.heap H locs := by rw [hH, hlo]; exact hS
  suffices hgo : W p l e rmMr_beginText s m [.ref b, .ref (b + 38 + 4 * kx)].toArray below meth c H locs 0 0 (MQ below (qMr_beginText dC dI dA dS b tr hg wk at_ en cm rg st0 en0 lg tR ngR scR lnR uR lu ru su qu pl rv si D CR FR LF RF SF QF P vs tp st xa kx A) [.ref b, .ref (b + 38 + 4 * kx)].toArray s 0 0 A) (F0 m 0 ls []) by rw [hH, hlo] at hgo; exact hgo
  clear hH hlo
  have hCR0 := hCR
  obtain ⟨⟨tv, ngv, scv, lnv, uv, Cv, Fv⟩, e_vv⟩ : ∃ z : VS, z = vs kx := ⟨_, rfl⟩
  have hP := va_P_pm (wMr_p (fV1 (dA := dA) (b := b) (vs := vs) (tp := tp) (k := kx) (by exact hkx))) hP
  have hD := va_D_pm (wMr_p (fV1 (dA := dA) (b := b) (vs := vs) (tp := tp) (k := kx) (by exact hkx))) hD
  rw [← e_vv] at hP hD
  have hP : va_P (dC, dI) vwCl (wMr dA b tr hg wk at_ en cm rg st0 en0 lg tR ngR scR lnR uR lu ru su qu pl rv si D CR FR LF RF SF QF P (wVx dA (b + 38 + 4 * kx) tv ngv scv lnv uv Cv Fv (tV1 dA b vs tp kx))) H := hP
  have hD : va_D A (wMr dA b tr hg wk at_ en cm rg st0 en0 lg tR ngR scR lnR uR lu ru su qu pl rv si D CR FR LF RF SF QF P (wVx dA (b + 38 + 4 * kx) tv ngv scv lnv uv Cv Fv (tV1 dA b vs tp kx))) := hD
  rw [← e_vv] at hCR
  obtain ⟨N9, hV9, hW9, ha1, ha2, ha3, ha4, ha5⟩ := hCR
  have hvv : VV tv ngv scv lnv Cv N9 := hV9
  have hl4 : 0 ≤ lnv ∧ lnv ≤ 60 := hvv.2.2.2.1
  have hbb : blnk xa.ch 0 xa.ln ↔ blnk Cv 0 lnv := bl_c ha4 ha5
  refine lv_aload_n hx hb dMr_beginText_0 rfl (lv_at hl 1 rfl) ?_
  refine va_getN (D := (dC, dI)) (ci := 4) (v := .ref ((b + 38 + 4 * kx) + 3)) (C := "MacroReckoner$Value") (T := TVa) (N := 6) hx hb hts inVa hown hK hP 22 rfl rfl 4 (by decide) (va_Nw.use rfl (hX.1 ("MacroReckoner", 286, "MacroReckoner$Value", "row", "[C", "MacroReckoner") (List.mem_of_getElem? (i := 20) rfl))) (fun _ h9 => h9) rfl dMr_beginText_1 ?_
  refine lv_iconst (v := iI 0) hx hb dMr_beginText_4 rfl ?_
  refine lv_aload_n hx hb dMr_beginText_5 rfl (lv_at hl 1 rfl) ?_
  refine va_getN (D := (dC, dI)) (ci := 4) (v := .int (iI lnv)) (C := "MacroReckoner$Value") (T := TVa) (N := 6) hx hb hts inVa hown hK hP 22 rfl rfl 5 (by decide) (va_Nw.use rfl (hX.1 ("MacroReckoner", 278, "MacroReckoner$Value", "length", "I", "MacroReckoner") (List.mem_of_getElem? (i := 22) rfl))) (fun _ h9 => h9) rfl dMr_beginText_6 ?_
  refine cvT_i (we := wMr dA b tr hg wk at_ en cm rg st0 en0 lg tR ngR scR lnR uR lu ru su qu pl rv si D CR FR LF RF SF QF P (wVx dA (b + 38 + 4 * kx) tv ngv scv lnv uv Cv Fv [])) (tl := tV1 dA b vs tp kx) (va_runS (As := [.ref ((b + 38 + 4 * kx) + 3), .int (iI 0), .int (iI lnv)]) (rest := []) ⟨hx, hb, hml, hown, hts⟩ (cTa_onlySpaces l dC dI dA ((b + 38 + 4 * kx) + 3) 60 Cv 0 lnv (by omega) (by exact hvv.2.2.2.2.1) H.size) (va_cwS 3 hts (gdT wt4_22 wt2_11 wt1_2 wt2_12) rfl rfl rfl ⟨by decide, by decide, by decide +kernel⟩ ⟨by decide, by decide⟩) (preS hK hP hD hS hA XN_ok trivial [25] rfl rfl) rfl rfl hl.1 rfl (lv_room (Nat.le_of_ble_eq_true rfl)) dMr_beginText_9 ⟨Nat.zero_le _, Nat.zero_le _⟩) hP hD hS hA [25] [0, 1, 2, 3, 4, 5, 6, 7, 8, 9, 10, 11, 12, 13, 14, 15, 16, 17, 18, 19, 20, 21, 22, 23, 24] rfl (fun v_ => wMr dA b tr hg wk at_ en cm rg st0 en0 lg tR ngR scR lnR uR lu ru su qu pl rv si D CR FR LF RF SF QF P (wVx dA (b + 38 + 4 * kx) tv ngv scv lnv uv Cv Fv [])) (fun _ => rfl) (wMr dA b tr hg wk at_ en cm rg st0 en0 lg tR ngR scR lnR uR lu ru su qu pl rv si D CR FR LF RF SF QF P (((b + 38 + 4 * kx), .inr (4, [.int (iI tv), .ref ((b + 38 + 4 * kx) + 1), .int (iI ngv), .int (iI scv), .ref ((b + 38 + 4 * kx) + 3), .int (iI lnv)])) :: ((b + 38 + 4 * kx) + 1, .inr (5, [.ref ((b + 38 + 4 * kx) + 2), .int (iI uv)])) :: ((b + 38 + 4 * kx) + 2, .inl (dA 0, 32, .inl (arI Fv))) :: [])) rfl (fun _ => rfl) [b, b + 1, b + 2, b + 3, b + 4, b + 5, b + 6, b + 7, b + 8, b + 9, b + 10, b + 11, b + 12, b + 13, b + 14, b + 15, b + 16, b + 17, b + 18, b + 19, b + 20, b + 21, (b + 38 + 4 * kx), (b + 38 + 4 * kx) + 1, (b + 38 + 4 * kx) + 2, (b + 38 + 4 * kx) + 3] rfl (fun _ => rfl) (fun _ => rfl) (fun r9 u_ H locs hq9 hP hD hS => ?_)
  have hP : va_P (dC, dI) vwCl (wMr dA b tr hg wk at_ en cm rg st0 en0 lg tR ngR scR lnR uR lu ru su qu pl rv si D CR FR LF RF SF QF P (wVx dA (b + 38 + 4 * kx) tv ngv scv lnv uv Cv Fv (tV1 dA b vs tp kx))) H := hP
  have hD : va_D A (wMr dA b tr hg wk at_ en cm rg st0 en0 lg tR ngR scR lnR uR lu ru su qu pl rv si D CR FR LF RF SF QF P (wVx dA (b + 38 + 4 * kx) tv ngv scv lnv uv Cv Fv (tV1 dA b vs tp kx))) := hD
  have hq9 : (r9 = 1 ∧ ∀ j, ((0 : Int)) ≤ j → j < lnv → Cv j = 32) ∨ (r9 = 0 ∧ ∃ j, ((0 : Int)) ≤ j ∧ j < lnv ∧ Cv j ≠ 32) := hq9
  have hbl : (r9 = 1 ∧ blnk Cv 0 lnv) ∨ (r9 = 0 ∧ ¬ blnk Cv 0 lnv) := by rcases hq9 with ⟨z1, z2⟩ | ⟨z1, j, z2, z3, z4⟩; exact Or.inl ⟨z1, z2⟩; exact Or.inr ⟨z1, fun w => z4 (w j z2 z3)⟩
  have hr9 : r9 = 0 ∨ r9 = 1 := by rcases hbl with ⟨z, -⟩ | ⟨z, -⟩ <;> omega
  clear hq9
  clear hq9
  refine iv_if_eq (tgt := 17) hx hb dMr_beginText_12 (by decide) ⟨by omega, by omega⟩ (fun hc12 => ?_) (fun hc12 => ?_)
  · have hP := va_P_pm (wMr_p (uV1 (dA := dA) (b := b) (vs := vs) (tp := tp) (k := kx) (v := (tv, ngv, scv, lnv, uv, Cv, Fv)) (by exact hkx))) hP
    have hD := va_D_pm (wMr_p (uV1 (dA := dA) (b := b) (vs := vs) (tp := tp) (k := kx) (v := (tv, ngv, scv, lnv, uv, Cv, Fv)) (by exact hkx))) hD
    rw [upF_id e_vv] at hP hD
    have hP : va_P (dC, dI) vwCl (wMr dA b tr hg wk at_ en cm rg st0 en0 lg tR ngR scR lnR uR lu ru su qu pl rv si D CR FR LF RF SF QF P (tl0 dA b vs tp)) H := hP
    have hD : va_D A (wMr dA b tr hg wk at_ en cm rg st0 en0 lg tR ngR scR lnR uR lu ru su qu pl rv si D CR FR LF RF SF QF P (tl0 dA b vs tp)) := hD
    refine lv_aload_n hx hb dMr_beginText_17 rfl (lv_at hl 0 rfl) ?_
    refine cvA_v (va_runV (C := "MacroReckoner") (As := []) (rest := []) ⟨hx, hb, hml, hown, hts⟩ (cMr_forgetSpentTexts l dC dI dA dS b tr hg wk at_ en cm rg st0 en0 lg tR ngR scR lnR uR lu ru su qu pl rv si D CR FR LF RF SF QF P vs tp st (by exact hCX) H.size) (cwV 0 hts (gdV wt2_2 wt2_4 ws1_0 wt1_1 wt2_5) rfl rfl rfl ⟨rfl, by decide, by decide, by decide +kernel⟩ ⟨by decide, by decide⟩) (preVA (q := ("MacroReckoner", TMr, 11)) hK hP hD hS hA (XC_ok dS) hX 0 rfl rfl) rfl rfl hl.1 rfl (lv_room (Nat.le_of_ble_eq_true rfl)) dMr_beginText_18 ⟨Nat.zero_le _, Nat.zero_le _⟩) hD hS hA (fun u_ H locs hq18 hP hD hS => ?_)
    obtain ⟨tr1_18, rfl⟩ : ∃ z, z = u_ := ⟨_, rfl⟩
    have hP : va_P (dC, dI) vwCl (wMr dA b tr1_18 hg wk at_ en cm rg st0 en0 lg tR ngR scR lnR uR lu ru su qu pl ((rv)) si D CR FR LF RF SF QF P (tl0 dA b vs tp)) H := hP
    have hD : va_D A (wMr dA b tr1_18 hg wk at_ en cm rg st0 en0 lg tR ngR scR lnR uR lu ru su qu pl ((rv)) si D CR FR LF RF SF QF P (tl0 dA b vs tp)) := hD
    have hq18 : tr1_18 = st.tn := hq18
    have hCX1 : CX tp st.tn st := CX_t hCX
    have hx1 := hCX1.1
    have hbn : ¬ (xa.t ≠ 1 ∨ blnk xa.ch 0 xa.ln) := fun z => by rcases z with z | z; exact z hxt; exact (hbl.resolve_left (fun w => by omega)).2 (hbb.mp z)
    refine lv_aload_n hx hb dMr_beginText_21 rfl (lv_at hl 0 rfl) ?_
    refine va_get (D := (dC, dI)) (ci := 6) (v := .int (iI tr1_18)) (C := "MacroReckoner") (T := TMr) (N := 11) hx hb hts inMr hown hK hP 0 rfl rfl 2 (by decide) (hts _ wt1_175) (fun _ h9 => h9) rfl dMr_beginText_22 ?_
    refine lv_bipush (v := iI 8) hx hb dMr_beginText_25 (by decide) ?_
    refine iv_icmp_ne (tgt := 33) hx hb dMr_beginText_27 (by decide) ⟨by omega, by omega⟩ ⟨by decide, by decide⟩ (fun hc27 => ?_) (fun hc27 => ?_)
    · refine lv_aload_n hx hb dMr_beginText_33 rfl (lv_at hl 0 rfl) ?_
      refine va_get (D := (dC, dI)) (ci := 6) (v := .ref (b + 3)) (C := "MacroReckoner") (T := TMr) (N := 11) hx hb hts inMr hown hK hP 0 rfl rfl 1 (by decide) (hts _ wt1_174) (fun _ h9 => h9) rfl dMr_beginText_34 ?_
      refine lv_aload_n hx hb dMr_beginText_37 rfl (lv_at hl 0 rfl) ?_
      refine va_get (D := (dC, dI)) (ci := 6) (v := .int (iI tr1_18)) (C := "MacroReckoner") (T := TMr) (N := 11) hx hb hts inMr hown hK hP 0 rfl rfl 2 (by decide) (hts _ wt1_175) (fun _ h9 => h9) rfl dMr_beginText_38 ?_
      refine iv_aald hx hb hK hP 3 5 rfl rfl (by decide) dMr_beginText_41 (by omega) (by omega) ?_
      refine W.eq (g2 := F0 m 42 ls [.ref (b + 22 + 2 * (tr1_18).toNat)]) rfl ?_
      obtain ⟨⟨tw, ngw, scw, lnw, uw, Cw, Fw⟩, e_vw⟩ : ∃ z : VS, z = vs kx := ⟨_, rfl⟩
      obtain ⟨⟨Du, atu, enu⟩, e_tu⟩ : ∃ z : TS, z = tp ((tr1_18).toNat) := ⟨_, rfl⟩
      have hP := va_P_pm (wMr_p (fVT (dA := dA) (b := b) (vs := vs) (tp := tp) (k := kx) (j := (tr1_18).toNat) (by exact hkx) (by omega))) hP
      have hD := va_D_pm (wMr_p (fVT (dA := dA) (b := b) (vs := vs) (tp := tp) (k := kx) (j := (tr1_18).toNat) (by exact hkx) (by omega))) hD
      rw [← e_vw, ← e_tu] at hP hD
      have hP : va_P (dC, dI) vwCl (wMr dA b tr1_18 hg wk at_ en cm rg st0 en0 lg tR ngR scR lnR uR lu ru su qu pl ((rv)) si D CR FR LF RF SF QF P (wVx dA (b + 38 + 4 * kx) tw ngw scw lnw uw Cw Fw (wTx dA (b + 22 + 2 * (tr1_18).toNat) Du atu enu (tVT dA b vs tp kx ((tr1_18).toNat))))) H := hP
      have hD : va_D A (wMr dA b tr1_18 hg wk at_ en cm rg st0 en0 lg tR ngR scR lnR uR lu ru su qu pl ((rv)) si D CR FR LF RF SF QF P (wVx dA (b + 38 + 4 * kx) tw ngw scw lnw uw Cw Fw (wTx dA (b + 22 + 2 * (tr1_18).toNat) Du atu enu (tVT dA b vs tp kx ((tr1_18).toNat))))) := hD
      rw [← e_vw] at hCR0
      obtain ⟨N8, hV8, hW8, hb1, hb2, hb3, hb4, hb5⟩ := hCR0
      have hvw : VV tw ngw scw lnw Cw N8 := hV8
      have hl5 : 0 ≤ lnw ∧ lnw ≤ 60 := hvw.2.2.2.1
      have hb4 : xa.ln = lnw := hb4
      refine lv_aload_n hx hb dMr_beginText_42 rfl (lv_at hl 1 rfl) ?_
      refine va_getN (D := (dC, dI)) (ci := 4) (v := .ref ((b + 38 + 4 * kx) + 3)) (C := "MacroReckoner$Value") (T := TVa) (N := 6) hx hb hts inVa hown hK hP 22 rfl rfl 4 (by decide) (va_Nw.use rfl (hX.1 ("MacroReckoner", 286, "MacroReckoner$Value", "row", "[C", "MacroReckoner") (List.mem_of_getElem? (i := 20) rfl))) (fun _ h9 => h9) rfl dMr_beginText_43 ?_
      refine lv_aload_n hx hb dMr_beginText_46 rfl (lv_at hl 1 rfl) ?_
      refine va_getN (D := (dC, dI)) (ci := 4) (v := .int (iI lnw)) (C := "MacroReckoner$Value") (T := TVa) (N := 6) hx hb hts inVa hown hK hP 22 rfl rfl 5 (by decide) (va_Nw.use rfl (hX.1 ("MacroReckoner", 278, "MacroReckoner$Value", "length", "I", "MacroReckoner") (List.mem_of_getElem? (i := 22) rfl))) (fun _ h9 => h9) rfl dMr_beginText_47 ?_
      refine cvT_v (we := wMr dA b tr1_18 hg wk at_ en cm rg st0 en0 lg tR ngR scR lnR uR lu ru su qu pl ((rv)) si D CR FR LF RF SF QF P (wVx dA (b + 38 + 4 * kx) tw ngw scw lnw uw Cw Fw (wTx dA (b + 22 + 2 * (tr1_18).toNat) Du atu enu []))) (tl := tVT dA b vs tp kx ((tr1_18).toNat)) (va_runV (C := "MacroReckoner$Tape") (As := [.ref ((b + 38 + 4 * kx) + 3), .int (iI lnw)]) (rest := []) ⟨hx, hb, hml, hown, hts⟩ (cTa_fill l dC dI dA (b + 22 + 2 * (tr1_18).toNat) ((b + 22 + 2 * (tr1_18).toNat) + 1) 60 Du atu enu ((b + 38 + 4 * kx) + 3) 60 Cw lnw (by omega) (by exact hvw.2.2.2.2.1) H.size) (cwV 2 hts (gdV wt4_23 wt4_24 wt4_25 wt1_2 wt4_26) rfl rfl rfl ⟨rfl, by decide, by decide, by decide +kernel⟩ ⟨by decide, by decide⟩) (preV (q := ("MacroReckoner$Tape", TTa, 3)) hK hP hD hS hA XN_ok trivial [26, 27, 25] rfl rfl 0 rfl rfl) rfl rfl hl.1 rfl (lv_room (Nat.le_of_ble_eq_true rfl)) dMr_beginText_50 ⟨Nat.zero_le _, Nat.zero_le _⟩) hP hD hS hA [26, 27, 25] [0, 1, 2, 3, 4, 5, 6, 7, 8, 9, 10, 11, 12, 13, 14, 15, 16, 17, 18, 19, 20, 21, 22, 23, 24] rfl (fun v_ => wMr dA b tr1_18 hg wk at_ en cm rg st0 en0 lg tR ngR scR lnR uR lu ru su qu pl ((rv)) si D CR FR LF RF SF QF P (wVx dA (b + 38 + 4 * kx) tw ngw scw lnw uw Cw Fw (wTx dA (b + 22 + 2 * (tr1_18).toNat) v_ 0 lnw []))) (fun _ => rfl) (wMr dA b tr1_18 hg wk at_ en cm rg st0 en0 lg tR ngR scR lnR uR lu ru su qu pl ((rv)) si D CR FR LF RF SF QF P (((b + 38 + 4 * kx), .inr (4, [.int (iI tw), .ref ((b + 38 + 4 * kx) + 1), .int (iI ngw), .int (iI scw), .ref ((b + 38 + 4 * kx) + 3), .int (iI lnw)])) :: ((b + 38 + 4 * kx) + 1, .inr (5, [.ref ((b + 38 + 4 * kx) + 2), .int (iI uw)])) :: ((b + 38 + 4 * kx) + 2, .inl (dA 0, 32, .inl (arI Fw))) :: [])) rfl (fun _ => rfl) [b, b + 1, b + 2, b + 3, b + 4, b + 5, b + 6, b + 7, b + 8, b + 9, b + 10, b + 11, b + 12, b + 13, b + 14, b + 15, b + 16, b + 17, b + 18, b + 19, b + 20, b + 21, (b + 38 + 4 * kx), (b + 38 + 4 * kx) + 1, (b + 38 + 4 * kx) + 2, (b + 38 + 4 * kx) + 3, (b + 22 + 2 * (tr1_18).toNat), (b + 22 + 2 * (tr1_18).toNat) + 1] rfl (fun _ => rfl) (fun _ => rfl) (fun u_ H locs hq50 hP hD hS => ?_)
      obtain ⟨D1_50, rfl⟩ : ∃ z, z = u_ := ⟨_, rfl⟩
      have hP : va_P (dC, dI) vwCl (wMr dA b tr1_18 hg wk at_ en cm rg st0 en0 lg tR ngR scR lnR uR lu ru su qu pl ((rv)) si D CR FR LF RF SF QF P (wVx dA (b + 38 + 4 * kx) tw ngw scw lnw uw Cw Fw (wTx dA (b + 22 + 2 * (tr1_18).toNat) D1_50 0 lnw (tVT dA b vs tp kx ((tr1_18).toNat))))) H := hP
      have hD : va_D A (wMr dA b tr1_18 hg wk at_ en cm rg st0 en0 lg tR ngR scR lnR uR lu ru su qu pl ((rv)) si D CR FR LF RF SF QF P (wVx dA (b + 38 + 4 * kx) tw ngw scw lnw uw Cw Fw (wTx dA (b + 22 + 2 * (tr1_18).toNat) D1_50 0 lnw (tVT dA b vs tp kx ((tr1_18).toNat))))) := hD
      have hq50 : TP 60 D1_50 0 lnw ∧ ∀ j, 0 ≤ j → j < lnw → D1_50 j = Cw j := hq50
      have hP := va_P_pm (wMr_p (uVT (dA := dA) (b := b) (vs := vs) (tp := tp) (k := kx) (j := (tr1_18).toNat) (v := (tw, ngw, scw, lnw, uw, Cw, Fw)) (w := (D1_50, 0, lnw)) (by exact hkx) (by omega))) hP
      have hD := va_D_pm (wMr_p (uVT (dA := dA) (b := b) (vs := vs) (tp := tp) (k := kx) (j := (tr1_18).toNat) (v := (tw, ngw, scw, lnw, uw, Cw, Fw)) (w := (D1_50, 0, lnw)) (by exact hkx) (by omega))) hD
      rw [upF_id e_vw] at hP hD
      have hP : va_P (dC, dI) vwCl (wMr dA b tr1_18 hg wk at_ en cm rg st0 en0 lg tR ngR scR lnR uR lu ru su qu pl ((rv)) si D CR FR LF RF SF QF P (tl0 dA b vs (upF tp ((tr1_18).toNat) (D1_50, 0, lnw)))) H := hP
      have hD : va_D A (wMr dA b tr1_18 hg wk at_ en cm rg st0 en0 lg tR ngR scR lnR uR lu ru su qu pl ((rv)) si D CR FR LF RF SF QF P (tl0 dA b vs (upF tp ((tr1_18).toNat) (D1_50, 0, lnw)))) := hD
      refine lv_aload_n hx hb dMr_beginText_53 rfl (lv_at hl 0 rfl) ?_
      refine lv_dup hx hb dMr_beginText_54 rfl ?_
      refine va_get (D := (dC, dI)) (ci := 6) (v := .int (iI tr1_18)) (C := "MacroReckoner") (T := TMr) (N := 11) hx hb hts inMr hown hK hP 0 rfl rfl 2 (by decide) (hts _ wt1_175) (fun _ h9 => h9) rfl dMr_beginText_55 ?_
      refine lv_iconst (v := iI 1) hx hb dMr_beginText_58 rfl ?_
      refine iv_iadd hx hb dMr_beginText_59 ?_
      refine va_put (D := (dC, dI)) (ci := 6) (v := .int (iI (tr1_18 + 1))) (ty := .int) (C := "MacroReckoner") (T := TMr) (N := 11) hx hb hts inMr tyMr tyMr_ok nmMr hown hK hP hD hS 0 rfl rfl 2 (by decide) (hts _ wt1_175) (fun _ h9 => h9) rfl (by decide +kernel) rfl rfl (Nat.le_of_ble_eq_true rfl) dMr_beginText_60 (fun H locs hP hD hS => ?_)
      have hP : va_P (dC, dI) vwCl (wMr dA b (tr1_18 + 1) hg wk at_ en cm rg st0 en0 lg tR ngR scR lnR uR lu ru su qu pl ((rv)) si D CR FR LF RF SF QF P (tl0 dA b vs (upF tp ((tr1_18).toNat) (D1_50, 0, lnw)))) H := hP
      have hD : va_D A (wMr dA b (tr1_18 + 1) hg wk at_ en cm rg st0 en0 lg tR ngR scR lnR uR lu ru su qu pl ((rv)) si D CR FR LF RF SF QF P (tl0 dA b vs (upF tp ((tr1_18).toNat) (D1_50, 0, lnw)))) := hD
      refine lv_iconst (v := iI 0) hx hb dMr_beginText_63 rfl ?_
      exact rt_i hx hb hr hlocks hK hS dMr_beginText_64 (tr1_18 + 1, upF tp ((tr1_18).toNat) (D1_50, 0, lnw)) hP hD (show 0 = (begA st xa).1 ∧ CX (upF tp ((tr1_18).toNat) (D1_50, 0, lnw)) (tr1_18 + 1) (begA st xa).2 from by have h := beg_C hCX1 hbn (by omega) hb4 hq50.1 (fun j x y => by rw [hb5 j x y]; exact hq50.2 j x (by omega)); rw [hq18]; exact ⟨h.1.symm, h.2⟩)
    · refine lv_bipush (v := iI (-9)) hx hb dMr_beginText_30 (by decide) ?_
      exact rt_i hx hb hr hlocks hK hS dMr_beginText_32 (tr1_18, tp) hP hD (show (-9) = (begA st xa).1 ∧ CX tp tr1_18 (begA st xa).2 from by rw [beg_9 hbn (by omega), hq18]; exact ⟨rfl, hCX1⟩)
  · have hP := va_P_pm (wMr_p (uV1 (dA := dA) (b := b) (vs := vs) (tp := tp) (k := kx) (v := (tv, ngv, scv, lnv, uv, Cv, Fv)) (by exact hkx))) hP
    have hD := va_D_pm (wMr_p (uV1 (dA := dA) (b := b) (vs := vs) (tp := tp) (k := kx) (v := (tv, ngv, scv, lnv, uv, Cv, Fv)) (by exact hkx))) hD
    rw [upF_id e_vv] at hP hD
    have hP : va_P (dC, dI) vwCl (wMr dA b tr hg wk at_ en cm rg st0 en0 lg tR ngR scR lnR uR lu ru su qu pl rv si D CR FR LF RF SF QF P (tl0 dA b vs tp)) H := hP
    have hD : va_D A (wMr dA b tr hg wk at_ en cm rg st0 en0 lg tR ngR scR lnR uR lu ru su qu pl rv si D CR FR LF RF SF QF P (tl0 dA b vs tp)) := hD
    refine lv_iconst (v := iI 0) hx hb dMr_beginText_15 rfl ?_
    exact rt_i hx hb hr hlocks hK hS dMr_beginText_16 (tr, tp) hP hD (show 0 = (begA st xa).1 ∧ CX tp tr (begA st xa).2 from by rw [begA_b (hbb.mpr (hbl.resolve_right (fun w => by omega)).2)]; exact ⟨rfl, hCX⟩)

theorem dMr_runTop_0 : decode prog_1_method_33_code 0 = .ok (.aload_n 0, 1) := by decide +kernel
theorem dMr_runTop_1 : decode prog_1_method_33_code 1 = .ok (.getfield 35, 3) := by decide +kernel
theorem dMr_runTop_4 : decode prog_1_method_33_code 4 = .ok (.aload_n 0, 1) := by decide +kernel
theorem dMr_runTop_5 : decode prog_1_method_33_code 5 = .ok (.getfield 39, 3) := by decide +kernel
theorem dMr_runTop_8 : decode prog_1_method_33_code 8 = .ok (.iconst 1, 1) := by decide +kernel
theorem dMr_runTop_9 : decode prog_1_method_33_code 9 = .ok (.isub, 1) := by decide +kernel
theorem dMr_runTop_10 : decode prog_1_method_33_code 10 = .ok (.aaload, 1) := by decide +kernel
theorem dMr_runTop_11 : decode prog_1_method_33_code 11 = .ok (.astore_n 1, 1) := by decide +kernel
theorem dMr_runTop_12 : decode prog_1_method_33_code 12 = .ok (.aload_n 1, 1) := by decide +kernel
theorem dMr_runTop_13 : decode prog_1_method_33_code 13 = .ok (.getfield 107, 3) := by decide +kernel
theorem dMr_runTop_16 : decode prog_1_method_33_code 16 = .ok (.ifCond .ne 5, 3) := by decide +kernel
theorem dMr_runTop_19 : decode prog_1_method_33_code 19 = .ok (.iconst 0, 1) := by decide +kernel
theorem dMr_runTop_20 : decode prog_1_method_33_code 20 = .ok (.ireturn, 1) := by decide +kernel
theorem dMr_runTop_21 : decode prog_1_method_33_code 21 = .ok (.aload_n 0, 1) := by decide +kernel
theorem dMr_runTop_22 : decode prog_1_method_33_code 22 = .ok (.aload_n 1, 1) := by decide +kernel
theorem dMr_runTop_23 : decode prog_1_method_33_code 23 = .ok (.invokevirtual 279, 3) := by decide +kernel
theorem dMr_runTop_26 : decode prog_1_method_33_code 26 = .ok (.istore_n 2, 1) := by decide +kernel
theorem dMr_runTop_27 : decode prog_1_method_33_code 27 = .ok (.iload_n 2, 1) := by decide +kernel
theorem dMr_runTop_28 : decode prog_1_method_33_code 28 = .ok (.ifCond .ne 13, 3) := by decide +kernel
theorem dMr_runTop_31 : decode prog_1_method_33_code 31 = .ok (.aload_n 0, 1) := by decide +kernel
theorem dMr_runTop_32 : decode prog_1_method_33_code 32 = .ok (.dup, 1) := by decide +kernel
theorem dMr_runTop_33 : decode prog_1_method_33_code 33 = .ok (.getfield 39, 3) := by decide +kernel
theorem dMr_runTop_36 : decode prog_1_method_33_code 36 = .ok (.iconst 1, 1) := by decide +kernel
theorem dMr_runTop_37 : decode prog_1_method_33_code 37 = .ok (.isub, 1) := by decide +kernel
theorem dMr_runTop_38 : decode prog_1_method_33_code 38 = .ok (.putfield 39, 3) := by decide +kernel
theorem dMr_runTop_41 : decode prog_1_method_33_code 41 = .ok (.iload_n 2, 1) := by decide +kernel
theorem dMr_runTop_42 : decode prog_1_method_33_code 42 = .ok (.ireturn, 1) := by decide +kernel
abbrev qMr_runTop (dC : Nat → ClassId) (dI : Nat → Nat → Nat) (dA : Nat → ClassId) (dS : Nat → Nat) (b : Nat) (tr : Int) (hg : Int) (wk : Int) (at_ : Int) (en : Int) (cm : Int) (rg : Int) (st0 : Int) (en0 : Int) (lg : Int) (tR : Int) (ngR : Int) (scR : Int) (lnR : Int) (uR : Int) (lu : Int) (ru : Int) (su : Int) (qu : Int) (pl : Int) (rv : Value) (si : Int → Nat) (D : Int → Int) (CR : Int → Int) (FR : Int → Int) (LF : Int → Int) (RF : Int → Int) (SF : Int → Int) (QF : Int → Int) (P : Int → Int) (vs : Nat → VS) (tp : Nat → TS) (st : AS) (A : Nat → Prop) : Array Value → State → Outcome → State → Prop := QI (dC, dI) vwCl (tyA dA) (fun (r : Int) (v_ : Int × Int × (Nat → TS)) => r = (runA st).1 ∧ v_.1 = (runA st).2.h ∧ CX v_.2.2 v_.2.1 (runA st).2) (fun (v_ : Int × Int × (Nat → TS)) => wMr dA b v_.2.1 v_.1 wk at_ en cm rg st0 en0 lg tR ngR scR lnR uR lu ru su qu pl rv si D CR FR LF RF SF QF P (tl0 dA b vs v_.2.2)) A
abbrev rmMr_runTop : Room := { frames := 4, cells := 0, slots := 0, locals := 103 }
set_option maxRecDepth 100000 in
set_option maxHeartbeats 1000000 in
theorem cMr_runTop (l : Launch) (dC : Nat → ClassId) (dI : Nat → Nat → Nat) (dA : Nat → ClassId) (dS : Nat → Nat) (b : Nat) (tr : Int) (hg : Int) (wk : Int) (at_ : Int) (en : Int) (cm : Int) (rg : Int) (st0 : Int) (en0 : Int) (lg : Int) (tR : Int) (ngR : Int) (scR : Int) (lnR : Int) (uR : Int) (lu : Int) (ru : Int) (su : Int) (qu : Int) (pl : Int) (rv : Value) (si : Int → Nat) (D : Int → Int) (CR : Int → Int) (FR : Int → Int) (LF : Int → Int) (RF : Int → Int) (SF : Int → Int) (QF : Int → Int) (P : Int → Int) (vs : Nat → VS) (tp : Nat → TS) (st : AS) (hCH : CH si vs hg wk st) (hCX : CX tp tr st) (hg1_ : 1 ≤ hg) (sz : Nat) : Met l yMr_runTop wsMr_runTop rmMr_runTop (PC (dC, dI) vwCl (tyA dA) (XC dS) [.ref b] (wMr dA b tr hg wk at_ en cm rg st0 en0 lg tR ngR scR lnR uR lu ru su qu pl rv si D CR FR LF RF SF QF P (tl0 dA b vs tp)) sz) (qMr_runTop dC dI dA dS b tr hg wk at_ en cm rg st0 en0 lg tR ngR scR lnR uR lu ru su qu pl rv si D CR FR LF RF SF QF P vs tp st (va_A (wMr dA b tr hg wk at_ en cm rg st0 en0 lg tR ngR scR lnR uR lu ru su qu pl rv si D CR FR LF RF SF QF P (tl0 dA b vs tp)) sz)) 0 0 (va_A (wMr dA b tr hg wk at_ en cm rg st0 en0 lg tR ngR scR lnR uR lu ru su qu pl rv si D CR FR LF RF SF QF P (tl0 dA b vs tp)) sz) := by
  refine met_of (cc := prog_1_method_33_code) (maxL := 3) (ret := (some .int)) (Qc := qMr_runTop dC dI dA dS b tr hg wk at_ en cm rg st0 en0 lg tR ngR scR lnR uR lu ru su qu pl rv si D CR FR LF RF SF QF P vs tp st) (XC_ok dS) (by decide) rfl (Nat.le_of_ble_eq_true rfl) ?_
  intro p e s m below meth c ls A hx hb hr hml hown hts hlocks hnm hK hP hD hA hX hS hl
  have hl : lv_has ls 3 [(0, .ref b)] := hl
  have hown : s.vm.findClass "MacroReckoner" = some m.cls := hown
  obtain ⟨H, hH⟩ : ∃ H : Heap, H = s.heap := ⟨_, rfl⟩
  obtain ⟨locs, hlo⟩ : ∃ L : List Loc, L = [] := ⟨_, rfl⟩
  have hP : va_P (dC, dI) vwCl (wMr dA b tr hg wk at_ en cm rg st0 en0 lg tR ngR scR lnR uR lu ru su qu pl rv si D CR FR LF RF SF QF P (tl0 dA b vs tp)) H := hH ▸ hP
  have hS : va_S A s.heap H locs := by rw [hH, hlo]; exact hS
  suffices hgo : W p l e rmMr_runTop s m [.ref b].toArray below meth c H locs 0 0 (MQ below (qMr_runTop dC dI dA dS b tr hg wk at_ en cm rg st0 en0 lg tR ngR scR lnR uR lu ru su qu pl rv si D CR FR LF RF SF QF P vs tp st A) [.ref b].toArray s 0 0 A) (F0 m 0 ls []) by rw [hH, hlo] at hgo; exact hgo
  clear hH hlo
  have hh := hCH.1
  have hs9 := hCH.2.2.1 (hg - 1) (by omega) (by omega)
  have hCV := hCH.2.2.2.2.2 (hg - 1) (by omega) (by omega)
  rw [show st.stk (hg - 1) = st.stk (st.h - 1) by rw [hh.1]] at hCV
  refine lv_aload_n hx hb dMr_runTop_0 rfl (lv_at hl 0 rfl) ?_
  refine va_get (D := (dC, dI)) (ci := 6) (v := .ref (b + 5)) (C := "MacroReckoner") (T := TMr) (N := 11) hx hb hts inMr hown hK hP 0 rfl rfl 4 (by decide) (hts _ wt1_177) (fun _ h9 => h9) rfl dMr_runTop_1 ?_
  refine lv_aload_n hx hb dMr_runTop_4 rfl (lv_at hl 0 rfl) ?_
  refine va_get (D := (dC, dI)) (ci := 6) (v := .int (iI hg)) (C := "MacroReckoner") (T := TMr) (N := 11) hx hb hts inMr hown hK hP 0 rfl rfl 5 (by decide) (hts _ wt1_178) (fun _ h9 => h9) rfl dMr_runTop_5 ?_
  refine lv_iconst (v := iI 1) hx hb dMr_runTop_8 rfl ?_
  refine iv_isub hx hb dMr_runTop_9 ?_
  refine iv_aald hx hb hK hP 5 4 rfl rfl (by decide) dMr_runTop_10 (by omega) (by omega) ?_
  refine W.eq (g2 := F0 m 11 ls [.ref (b + 38 + 4 * si (hg - 1))]) rfl ?_
  refine lv_astore_n (lv' := [(1, .ref (b + 38 + 4 * si (hg - 1))), (0, .ref b)]) hx hb dMr_runTop_11 rfl hl (by decide) rfl (fun ls hl => ?_)
  have hCV0 := hCV
  obtain ⟨⟨tv, ngv, scv, lnv, uv, Cv, Fv⟩, e_vv⟩ : ∃ z : VS, z = vs (si (hg - 1)) := ⟨_, rfl⟩
  have hP := va_P_pm (wMr_p (fV1 (dA := dA) (b := b) (vs := vs) (tp := tp) (k := si (hg - 1)) (by omega))) hP
  have hD := va_D_pm (wMr_p (fV1 (dA := dA) (b := b) (vs := vs) (tp := tp) (k := si (hg - 1)) (by omega))) hD
  rw [← e_vv] at hP hD
  have hP : va_P (dC, dI) vwCl (wMr dA b tr hg wk at_ en cm rg st0 en0 lg tR ngR scR lnR uR lu ru su qu pl rv si D CR FR LF RF SF QF P (wVx dA (b + 38 + 4 * si (hg - 1)) tv ngv scv lnv uv Cv Fv (tV1 dA b vs tp (si (hg - 1))))) H := hP
  have hD : va_D A (wMr dA b tr hg wk at_ en cm rg st0 en0 lg tR ngR scR lnR uR lu ru su qu pl rv si D CR FR LF RF SF QF P (wVx dA (b + 38 + 4 * si (hg - 1)) tv ngv scv lnv uv Cv Fv (tV1 dA b vs tp (si (hg - 1))))) := hD
  rw [← e_vv] at hCV
  obtain ⟨N9, hV9, hW9, ha1, ha2, ha3, ha4, ha5⟩ := hCV
  have hb1 : (st.stk (st.h - 1)).t = tv := ha1
  have hvv : VV tv ngv scv lnv Cv N9 := hV9
  have hv1 := hvv.1
  refine lv_aload_n hx hb dMr_runTop_12 rfl (lv_at hl 0 rfl) ?_
  refine va_getN (D := (dC, dI)) (ci := 4) (v := .int (iI tv)) (C := "MacroReckoner$Value") (T := TVa) (N := 6) hx hb hts inVa hown hK hP 22 rfl rfl 0 (by decide) (va_Nw.use rfl (hX.1 ("MacroReckoner", 107, "MacroReckoner$Value", "text", "Z", "MacroReckoner") (List.mem_of_getElem? (i := 9) rfl))) (fun _ h9 => h9) rfl dMr_runTop_13 ?_
  refine iv_if_ne (tgt := 21) hx hb dMr_runTop_16 (by decide) ⟨by omega, by omega⟩ (fun hc16 => ?_) (fun hc16 => ?_)
  · have hP := va_P_pm (wMr_p (uV1 (dA := dA) (b := b) (vs := vs) (tp := tp) (k := si (hg - 1)) (v := (tv, ngv, scv, lnv, uv, Cv, Fv)) (by omega))) hP
    have hD := va_D_pm (wMr_p (uV1 (dA := dA) (b := b) (vs := vs) (tp := tp) (k := si (hg - 1)) (v := (tv, ngv, scv, lnv, uv, Cv, Fv)) (by omega))) hD
    rw [upF_id e_vv] at hP hD
    have hP : va_P (dC, dI) vwCl (wMr dA b tr hg wk at_ en cm rg st0 en0 lg tR ngR scR lnR uR lu ru su qu pl rv si D CR FR LF RF SF QF P (tl0 dA b vs tp)) H := hP
    have hD : va_D A (wMr dA b tr hg wk at_ en cm rg st0 en0 lg tR ngR scR lnR uR lu ru su qu pl rv si D CR FR LF RF SF QF P (tl0 dA b vs tp)) := hD
    refine lv_aload_n hx hb dMr_runTop_21 rfl (lv_at hl 1 rfl) ?_
    refine lv_aload_n hx hb dMr_runTop_22 rfl (lv_at hl 0 rfl) ?_
    refine cvA_i (va_runV (C := "MacroReckoner") (As := [.ref (b + 38 + 4 * si (hg - 1))]) (rest := []) ⟨hx, hb, hml, hown, hts⟩ (cMr_beginText l dC dI dA dS b tr hg wk at_ en cm rg st0 en0 lg tR ngR scR lnR uR lu ru su qu pl rv si D CR FR LF RF SF QF P vs tp st ((st.stk (st.h - 1))) (si (hg - 1)) (by exact hCX) (by omega) (by exact hCV0) (by omega) H.size) (cwV 1 hts (gdV wt4_18 wt4_20 ws3_3 wt1_1 wt4_21) rfl rfl rfl ⟨rfl, by decide, by decide, by decide +kernel⟩ ⟨by decide, by decide⟩) (preVA (q := ("MacroReckoner", TMr, 11)) hK hP hD hS hA (XC_ok dS) hX 0 rfl rfl) rfl rfl hl.1 rfl (lv_room (Nat.le_of_ble_eq_true rfl)) dMr_runTop_23 ⟨Nat.zero_le _, Nat.zero_le _⟩) hD hS hA (fun b9 u_ H locs hq23 hP hD hS => ?_)
    obtain ⟨tr1_23, tp1_23⟩ := u_
    have hP : va_P (dC, dI) vwCl (wMr dA b tr1_23 hg wk at_ en cm rg st0 en0 lg tR ngR scR lnR uR lu ru su qu pl ((rv)) si D CR FR LF RF SF QF P (tl0 dA b vs tp1_23)) H := hP
    have hD : va_D A (wMr dA b tr1_23 hg wk at_ en cm rg st0 en0 lg tR ngR scR lnR uR lu ru su qu pl ((rv)) si D CR FR LF RF SF QF P (tl0 dA b vs tp1_23)) := hD
    have hq23 : b9 = (begA st ((st.stk (st.h - 1)))).1 ∧ CX tp1_23 tr1_23 (begA st ((st.stk (st.h - 1)))).2 := hq23
    have hbc := begA_c (st := st) (a := (st.stk (st.h - 1)))
    have hrb : b9 = 0 ∨ b9 = -9 := by have h := hq23.1; omega
    refine lv_istore_n (lv' := [(2, .int (iI b9)), (1, .ref (b + 38 + 4 * si (hg - 1))), (0, .ref b)]) hx hb dMr_runTop_26 rfl hl (by decide) rfl (fun ls hl => ?_)
    refine lv_iload_n hx hb dMr_runTop_27 rfl (lv_at hl 0 rfl) ?_
    refine iv_if_ne (tgt := 41) hx hb dMr_runTop_28 (by decide) ⟨by omega, by omega⟩ (fun hc28 => ?_) (fun hc28 => ?_)
    · refine lv_iload_n hx hb dMr_runTop_41 rfl (lv_at hl 0 rfl) ?_
      exact rt_i hx hb hr hlocks hK hS dMr_runTop_42 (hg, tr1_23, tp1_23) hP hD (show b9 = (runA st).1 ∧ hg = (runA st).2.h ∧ CX tp1_23 tr1_23 (runA st).2 from by first | (have h := run_n (st := st) (by omega) (by have h := hq23.1; omega); rw [h.1]; refine ⟨hq23.1, hh.1, ?_⟩; have h2 := hq23.2; rw [h.2] at h2; exact h2) | (rw [run_0 (by omega) (by have h := hq23.1; omega)]; exact ⟨by omega, by show hg - 1 = st.h - 1; omega, CX_c hq23.2 rfl rfl rfl⟩))
    · refine lv_aload_n hx hb dMr_runTop_31 rfl (lv_at hl 2 rfl) ?_
      refine lv_dup hx hb dMr_runTop_32 rfl ?_
      refine va_get (D := (dC, dI)) (ci := 6) (v := .int (iI hg)) (C := "MacroReckoner") (T := TMr) (N := 11) hx hb hts inMr hown hK hP 0 rfl rfl 5 (by decide) (hts _ wt1_178) (fun _ h9 => h9) rfl dMr_runTop_33 ?_
      refine lv_iconst (v := iI 1) hx hb dMr_runTop_36 rfl ?_
      refine iv_isub hx hb dMr_runTop_37 ?_
      refine va_put (D := (dC, dI)) (ci := 6) (v := .int (iI (hg - 1))) (ty := .int) (C := "MacroReckoner") (T := TMr) (N := 11) hx hb hts inMr tyMr tyMr_ok nmMr hown hK hP hD hS 0 rfl rfl 5 (by decide) (hts _ wt1_178) (fun _ h9 => h9) rfl (by decide +kernel) rfl rfl (Nat.le_of_ble_eq_true rfl) dMr_runTop_38 (fun H locs hP hD hS => ?_)
      have hP : va_P (dC, dI) vwCl (wMr dA b tr1_23 (hg - 1) wk at_ en cm rg st0 en0 lg tR ngR scR lnR uR lu ru su qu pl ((rv)) si D CR FR LF RF SF QF P (tl0 dA b vs tp1_23)) H := hP
      have hD : va_D A (wMr dA b tr1_23 (hg - 1) wk at_ en cm rg st0 en0 lg tR ngR scR lnR uR lu ru su qu pl ((rv)) si D CR FR LF RF SF QF P (tl0 dA b vs tp1_23)) := hD
      refine lv_iload_n hx hb dMr_runTop_41 rfl (lv_at hl 0 rfl) ?_
      exact rt_i hx hb hr hlocks hK hS dMr_runTop_42 (hg - 1, tr1_23, tp1_23) hP hD (show b9 = (runA st).1 ∧ (hg - 1) = (runA st).2.h ∧ CX tp1_23 tr1_23 (runA st).2 from by first | (have h := run_n (st := st) (by omega) (by have h := hq23.1; omega); rw [h.1]; refine ⟨hq23.1, hh.1, ?_⟩; have h2 := hq23.2; rw [h.2] at h2; exact h2) | (rw [run_0 (by omega) (by have h := hq23.1; omega)]; exact ⟨by omega, by show hg - 1 = st.h - 1; omega, CX_c hq23.2 rfl rfl rfl⟩))
  · have hP := va_P_pm (wMr_p (uV1 (dA := dA) (b := b) (vs := vs) (tp := tp) (k := si (hg - 1)) (v := (tv, ngv, scv, lnv, uv, Cv, Fv)) (by omega))) hP
    have hD := va_D_pm (wMr_p (uV1 (dA := dA) (b := b) (vs := vs) (tp := tp) (k := si (hg - 1)) (v := (tv, ngv, scv, lnv, uv, Cv, Fv)) (by omega))) hD
    rw [upF_id e_vv] at hP hD
    have hP : va_P (dC, dI) vwCl (wMr dA b tr hg wk at_ en cm rg st0 en0 lg tR ngR scR lnR uR lu ru su qu pl rv si D CR FR LF RF SF QF P (tl0 dA b vs tp)) H := hP
    have hD : va_D A (wMr dA b tr hg wk at_ en cm rg st0 en0 lg tR ngR scR lnR uR lu ru su qu pl rv si D CR FR LF RF SF QF P (tl0 dA b vs tp)) := hD
    refine lv_iconst (v := iI 0) hx hb dMr_runTop_19 rfl ?_
    exact rt_i hx hb hr hlocks hK hS dMr_runTop_20 (hg, tr, tp) hP hD (show 0 = (runA st).1 ∧ hg = (runA st).2.h ∧ CX tp tr (runA st).2 from by rw [run_i (by omega)]; exact ⟨rfl, hh.1, hCX⟩)

theorem dMr_choose_0 : decode prog_1_method_34_code 0 = .ok (.aload_n 0, 1) := by decide +kernel
theorem dMr_choose_1 : decode prog_1_method_34_code 1 = .ok (.getfield 35, 3) := by decide +kernel
theorem dMr_choose_4 : decode prog_1_method_34_code 4 = .ok (.aload_n 0, 1) := by decide +kernel
theorem dMr_choose_5 : decode prog_1_method_34_code 5 = .ok (.getfield 39, 3) := by decide +kernel
theorem dMr_choose_8 : decode prog_1_method_34_code 8 = .ok (.iconst 2, 1) := by decide +kernel
theorem dMr_choose_9 : decode prog_1_method_34_code 9 = .ok (.isub, 1) := by decide +kernel
theorem dMr_choose_10 : decode prog_1_method_34_code 10 = .ok (.aaload, 1) := by decide +kernel
theorem dMr_choose_11 : decode prog_1_method_34_code 11 = .ok (.astore_n 3, 1) := by decide +kernel
theorem dMr_choose_12 : decode prog_1_method_34_code 12 = .ok (.aload_n 0, 1) := by decide +kernel
theorem dMr_choose_13 : decode prog_1_method_34_code 13 = .ok (.getfield 35, 3) := by decide +kernel
theorem dMr_choose_16 : decode prog_1_method_34_code 16 = .ok (.aload_n 0, 1) := by decide +kernel
theorem dMr_choose_17 : decode prog_1_method_34_code 17 = .ok (.getfield 39, 3) := by decide +kernel
theorem dMr_choose_20 : decode prog_1_method_34_code 20 = .ok (.iconst 1, 1) := by decide +kernel
theorem dMr_choose_21 : decode prog_1_method_34_code 21 = .ok (.isub, 1) := by decide +kernel
theorem dMr_choose_22 : decode prog_1_method_34_code 22 = .ok (.aaload, 1) := by decide +kernel
theorem dMr_choose_23 : decode prog_1_method_34_code 23 = .ok (.astore 4, 2) := by decide +kernel
theorem dMr_choose_25 : decode prog_1_method_34_code 25 = .ok (.aload_n 0, 1) := by decide +kernel
theorem dMr_choose_26 : decode prog_1_method_34_code 26 = .ok (.getfield 58, 3) := by decide +kernel
theorem dMr_choose_29 : decode prog_1_method_34_code 29 = .ok (.aload 4, 2) := by decide +kernel
theorem dMr_choose_31 : decode prog_1_method_34_code 31 = .ok (.aload_n 3, 1) := by decide +kernel
theorem dMr_choose_32 : decode prog_1_method_34_code 32 = .ok (.invokevirtual 282, 3) := by decide +kernel
theorem dMr_choose_35 : decode prog_1_method_34_code 35 = .ok (.istore 5, 2) := by decide +kernel
theorem dMr_choose_37 : decode prog_1_method_34_code 37 = .ok (.iload_n 1, 1) := by decide +kernel
theorem dMr_choose_38 : decode prog_1_method_34_code 38 = .ok (.bipush 60, 2) := by decide +kernel
theorem dMr_choose_40 : decode prog_1_method_34_code 40 = .ok (.if_icmp .ne 16, 3) := by decide +kernel
theorem dMr_choose_43 : decode prog_1_method_34_code 43 = .ok (.iload 5, 2) := by decide +kernel
theorem dMr_choose_45 : decode prog_1_method_34_code 45 = .ok (.ifCond .ge 7, 3) := by decide +kernel
theorem dMr_choose_48 : decode prog_1_method_34_code 48 = .ok (.iconst 1, 1) := by decide +kernel
theorem dMr_choose_49 : decode prog_1_method_34_code 49 = .ok (.goto 36, 3) := by decide +kernel
theorem dMr_choose_52 : decode prog_1_method_34_code 52 = .ok (.iconst 0, 1) := by decide +kernel
theorem dMr_choose_53 : decode prog_1_method_34_code 53 = .ok (.goto 32, 3) := by decide +kernel
theorem dMr_choose_56 : decode prog_1_method_34_code 56 = .ok (.iload_n 1, 1) := by decide +kernel
theorem dMr_choose_57 : decode prog_1_method_34_code 57 = .ok (.bipush 62, 2) := by decide +kernel
theorem dMr_choose_59 : decode prog_1_method_34_code 59 = .ok (.if_icmp .ne 16, 3) := by decide +kernel
theorem dMr_choose_62 : decode prog_1_method_34_code 62 = .ok (.iload 5, 2) := by decide +kernel
theorem dMr_choose_64 : decode prog_1_method_34_code 64 = .ok (.ifCond .le 7, 3) := by decide +kernel
theorem dMr_choose_67 : decode prog_1_method_34_code 67 = .ok (.iconst 1, 1) := by decide +kernel
theorem dMr_choose_68 : decode prog_1_method_34_code 68 = .ok (.goto 17, 3) := by decide +kernel
theorem dMr_choose_71 : decode prog_1_method_34_code 71 = .ok (.iconst 0, 1) := by decide +kernel
theorem dMr_choose_72 : decode prog_1_method_34_code 72 = .ok (.goto 13, 3) := by decide +kernel
theorem dMr_choose_75 : decode prog_1_method_34_code 75 = .ok (.iload 5, 2) := by decide +kernel
theorem dMr_choose_77 : decode prog_1_method_34_code 77 = .ok (.ifCond .ne 7, 3) := by decide +kernel
theorem dMr_choose_80 : decode prog_1_method_34_code 80 = .ok (.iconst 1, 1) := by decide +kernel
theorem dMr_choose_81 : decode prog_1_method_34_code 81 = .ok (.goto 4, 3) := by decide +kernel
theorem dMr_choose_84 : decode prog_1_method_34_code 84 = .ok (.iconst 0, 1) := by decide +kernel
theorem dMr_choose_85 : decode prog_1_method_34_code 85 = .ok (.istore 6, 2) := by decide +kernel
theorem dMr_choose_87 : decode prog_1_method_34_code 87 = .ok (.iload 6, 2) := by decide +kernel
theorem dMr_choose_89 : decode prog_1_method_34_code 89 = .ok (.ifCond .eq 18, 3) := by decide +kernel
theorem dMr_choose_92 : decode prog_1_method_34_code 92 = .ok (.aload_n 2, 1) := by decide +kernel
theorem dMr_choose_93 : decode prog_1_method_34_code 93 = .ok (.getfield 107, 3) := by decide +kernel
theorem dMr_choose_96 : decode prog_1_method_34_code 96 = .ok (.ifCond .eq 11, 3) := by decide +kernel
theorem dMr_choose_99 : decode prog_1_method_34_code 99 = .ok (.aload_n 0, 1) := by decide +kernel
theorem dMr_choose_100 : decode prog_1_method_34_code 100 = .ok (.aload_n 2, 1) := by decide +kernel
theorem dMr_choose_101 : decode prog_1_method_34_code 101 = .ok (.invokevirtual 279, 3) := by decide +kernel
theorem dMr_choose_104 : decode prog_1_method_34_code 104 = .ok (.goto 4, 3) := by decide +kernel
theorem dMr_choose_107 : decode prog_1_method_34_code 107 = .ok (.iconst 0, 1) := by decide +kernel
theorem dMr_choose_108 : decode prog_1_method_34_code 108 = .ok (.istore 7, 2) := by decide +kernel
theorem dMr_choose_110 : decode prog_1_method_34_code 110 = .ok (.iload 7, 2) := by decide +kernel
theorem dMr_choose_112 : decode prog_1_method_34_code 112 = .ok (.ifCond .ne 13, 3) := by decide +kernel
theorem dMr_choose_115 : decode prog_1_method_34_code 115 = .ok (.aload_n 0, 1) := by decide +kernel
theorem dMr_choose_116 : decode prog_1_method_34_code 116 = .ok (.dup, 1) := by decide +kernel
theorem dMr_choose_117 : decode prog_1_method_34_code 117 = .ok (.getfield 39, 3) := by decide +kernel
theorem dMr_choose_120 : decode prog_1_method_34_code 120 = .ok (.iconst 2, 1) := by decide +kernel
theorem dMr_choose_121 : decode prog_1_method_34_code 121 = .ok (.isub, 1) := by decide +kernel
theorem dMr_choose_122 : decode prog_1_method_34_code 122 = .ok (.putfield 39, 3) := by decide +kernel
theorem dMr_choose_125 : decode prog_1_method_34_code 125 = .ok (.iload 7, 2) := by decide +kernel
theorem dMr_choose_127 : decode prog_1_method_34_code 127 = .ok (.ireturn, 1) := by decide +kernel
abbrev qMr_choose (dC : Nat → ClassId) (dI : Nat → Nat → Nat) (dA : Nat → ClassId) (dS : Nat → Nat) (b : Nat) (tr : Int) (hg : Int) (wk : Int) (at_ : Int) (en : Int) (cm : Int) (rg : Int) (st0 : Int) (en0 : Int) (lg : Int) (tR : Int) (ngR : Int) (scR : Int) (lnR : Int) (uR : Int) (lu : Int) (ru : Int) (su : Int) (qu : Int) (pl : Int) (rv : Value) (si : Int → Nat) (D : Int → Int) (CR : Int → Int) (FR : Int → Int) (LF : Int → Int) (RF : Int → Int) (SF : Int → Int) (QF : Int → Int) (P : Int → Int) (vs : Nat → VS) (tp : Nat → TS) (st : AS) (c0 : Int) (rx : Int) (A : Nat → Prop) : Array Value → State → Outcome → State → Prop := QI (dC, dI) vwCl (tyA dA) (fun (r : Int) (v_ : Int × Int × (Nat → TS) × (Int → Int) × Int × (Int → Int) × Int) => r = (choA st c0 rx).1 ∧ v_.1 = (choA st c0 rx).2.h ∧ CX v_.2.2.1 v_.2.1 (choA st c0 rx).2) (fun (v_ : Int × Int × (Nat → TS) × (Int → Int) × Int × (Int → Int) × Int) => wMr dA b v_.2.1 v_.1 wk at_ en cm rg st0 en0 lg tR ngR scR lnR uR v_.2.2.2.2.1 v_.2.2.2.2.2.2 su qu pl rv si D CR FR v_.2.2.2.1 v_.2.2.2.2.2.1 SF QF P (tl0 dA b vs v_.2.2.1)) A
abbrev rmMr_choose : Room := { frames := 4, cells := 0, slots := 0, locals := 128 }
set_option maxRecDepth 100000 in
set_option maxHeartbeats 1000000 in
theorem cMr_choose (l : Launch) (dC : Nat → ClassId) (dI : Nat → Nat → Nat) (dA : Nat → ClassId) (dS : Nat → Nat) (b : Nat) (tr : Int) (hg : Int) (wk : Int) (at_ : Int) (en : Int) (cm : Int) (rg : Int) (st0 : Int) (en0 : Int) (lg : Int) (tR : Int) (ngR : Int) (scR : Int) (lnR : Int) (uR : Int) (lu : Int) (ru : Int) (su : Int) (qu : Int) (pl : Int) (rv : Value) (si : Int → Nat) (D : Int → Int) (CR : Int → Int) (FR : Int → Int) (LF : Int → Int) (RF : Int → Int) (SF : Int → Int) (QF : Int → Int) (P : Int → Int) (vs : Nat → VS) (tp : Nat → TS) (st : AS) (c0 : Int) (rx : Int) (hCH : CH si vs hg wk st) (hCX : CX tp tr st) (hg1_ : 2 ≤ hg) (hrx : 0 ≤ rx ∧ rx < 26) (hc0 : c0 = 60 ∨ c0 = 62 ∨ c0 = 61) (sz : Nat) : Met l yMr_choose wsMr_choose rmMr_choose (PC (dC, dI) vwCl (tyA dA) (XC dS) [.ref b, .int (iI c0), .ref (b + 38 + 4 * (20 + (rx).toNat))] (wMr dA b tr hg wk at_ en cm rg st0 en0 lg tR ngR scR lnR uR lu ru su qu pl rv si D CR FR LF RF SF QF P (tl0 dA b vs tp)) sz) (qMr_choose dC dI dA dS b tr hg wk at_ en cm rg st0 en0 lg tR ngR scR lnR uR lu ru su qu pl rv si D CR FR LF RF SF QF P vs tp st c0 rx (va_A (wMr dA b tr hg wk at_ en cm rg st0 en0 lg tR ngR scR lnR uR lu ru su qu pl rv si D CR FR LF RF SF QF P (tl0 dA b vs tp)) sz)) 0 0 (va_A (wMr dA b tr hg wk at_ en cm rg st0 en0 lg tR ngR scR lnR uR lu ru su qu pl rv si D CR FR LF RF SF QF P (tl0 dA b vs tp)) sz) := by
  refine met_of (cc := prog_1_method_34_code) (maxL := 8) (ret := (some .int)) (Qc := qMr_choose dC dI dA dS b tr hg wk at_ en cm rg st0 en0 lg tR ngR scR lnR uR lu ru su qu pl rv si D CR FR LF RF SF QF P vs tp st c0 rx) (XC_ok dS) (by decide) rfl (Nat.le_of_ble_eq_true rfl) ?_
  intro p e s m below meth c ls A hx hb hr hml hown hts hlocks hnm hK hP hD hA hX hS hl
  have hl : lv_has ls 8 [(0, .ref b), (1, .int (iI c0)), (2, .ref (b + 38 + 4 * (20 + (rx).toNat)))] := hl
  have hown : s.vm.findClass "MacroReckoner" = some m.cls := hown
  obtain ⟨H, hH⟩ : ∃ H : Heap, H = s.heap := ⟨_, rfl⟩
  obtain ⟨locs, hlo⟩ : ∃ L : List Loc, L = [] := ⟨_, rfl⟩
  have hP : va_P (dC, dI) vwCl (wMr dA b tr hg wk at_ en cm rg st0 en0 lg tR ngR scR lnR uR lu ru su qu pl rv si D CR FR LF RF SF QF P (tl0 dA b vs tp)) H := hH ▸ hP
  have hS : va_S A s.heap H locs := by rw [hH, hlo]; exact hS
  suffices hgo : W p l e rmMr_choose s m [.ref b, .int (iI c0), .ref (b + 38 + 4 * (20 + (rx).toNat))].toArray below meth c H locs 0 0 (MQ below (qMr_choose dC dI dA dS b tr hg wk at_ en cm rg st0 en0 lg tR ngR scR lnR uR lu ru su qu pl rv si D CR FR LF RF SF QF P vs tp st c0 rx A) [.ref b, .int (iI c0), .ref (b + 38 + 4 * (20 + (rx).toNat))].toArray s 0 0 A) (F0 m 0 ls []) by rw [hH, hlo] at hgo; exact hgo
  clear hH hlo
  have hh := hCH.1
  have hk9 := hCH.2.1
  have hs9 := hCH.2.2.1 (hg - 1) (by omega) (by omega)
  have hs8 := hCH.2.2.1 (hg - 2) (by omega) (by omega)
  have hne : si (hg - 2) ≠ si (hg - 1) := fun z => by have h := hCH.2.2.2.1 _ _ (by omega) (by omega) (by omega) (by omega) z; omega
  have hCVy := hCH.2.2.2.2.2 (hg - 1) (by omega) (by omega)
  rw [show st.stk (hg - 1) = st.stk (st.h - 1) by rw [hh.1]] at hCVy
  have hCVx := hCH.2.2.2.2.2 (hg - 2) (by omega) (by omega)
  rw [show st.stk (hg - 2) = st.stk (st.h - 2) by rw [hh.1]] at hCVx
  refine lv_aload_n hx hb dMr_choose_0 rfl (lv_at hl 0 rfl) ?_
  refine va_get (D := (dC, dI)) (ci := 6) (v := .ref (b + 5)) (C := "MacroReckoner") (T := TMr) (N := 11) hx hb hts inMr hown hK hP 0 rfl rfl 4 (by decide) (hts _ wt1_177) (fun _ h9 => h9) rfl dMr_choose_1 ?_
  refine lv_aload_n hx hb dMr_choose_4 rfl (lv_at hl 0 rfl) ?_
  refine va_get (D := (dC, dI)) (ci := 6) (v := .int (iI hg)) (C := "MacroReckoner") (T := TMr) (N := 11) hx hb hts inMr hown hK hP 0 rfl rfl 5 (by decide) (hts _ wt1_178) (fun _ h9 => h9) rfl dMr_choose_5 ?_
  refine lv_iconst (v := iI 2) hx hb dMr_choose_8 rfl ?_
  refine iv_isub hx hb dMr_choose_9 ?_
  refine iv_aald hx hb hK hP 5 4 rfl rfl (by decide) dMr_choose_10 (by omega) (by omega) ?_
  refine W.eq (g2 := F0 m 11 ls [.ref (b + 38 + 4 * si (hg - 2))]) rfl ?_
  obtain ⟨a1, e_a1⟩ : ∃ z : Nat, z = b + 38 + 4 * si (hg - 2) := ⟨_, rfl⟩
  rw [← e_a1]
  refine lv_astore_n (lv' := [(3, .ref a1), (0, .ref b), (1, .int (iI c0)), (2, .ref (b + 38 + 4 * (20 + (rx).toNat)))]) hx hb dMr_choose_11 rfl hl (by decide) rfl (fun ls hl => ?_)
  refine lv_aload_n hx hb dMr_choose_12 rfl (lv_at hl 1 rfl) ?_
  refine va_get (D := (dC, dI)) (ci := 6) (v := .ref (b + 5)) (C := "MacroReckoner") (T := TMr) (N := 11) hx hb hts inMr hown hK hP 0 rfl rfl 4 (by decide) (hts _ wt1_177) (fun _ h9 => h9) rfl dMr_choose_13 ?_
  refine lv_aload_n hx hb dMr_choose_16 rfl (lv_at hl 1 rfl) ?_
  refine va_get (D := (dC, dI)) (ci := 6) (v := .int (iI hg)) (C := "MacroReckoner") (T := TMr) (N := 11) hx hb hts inMr hown hK hP 0 rfl rfl 5 (by decide) (hts _ wt1_178) (fun _ h9 => h9) rfl dMr_choose_17 ?_
  refine lv_iconst (v := iI 1) hx hb dMr_choose_20 rfl ?_
  refine iv_isub hx hb dMr_choose_21 ?_
  refine iv_aald hx hb hK hP 5 4 rfl rfl (by decide) dMr_choose_22 (by omega) (by omega) ?_
  refine W.eq (g2 := F0 m 23 ls [.ref (b + 38 + 4 * si (hg - 1))]) rfl ?_
  obtain ⟨a2, e_a2⟩ : ∃ z : Nat, z = b + 38 + 4 * si (hg - 1) := ⟨_, rfl⟩
  rw [← e_a2]
  refine lv_astore (lv' := [(4, .ref a2), (3, .ref a1), (0, .ref b), (1, .int (iI c0)), (2, .ref (b + 38 + 4 * (20 + (rx).toNat)))]) hx hb dMr_choose_23 hl (by decide) rfl (fun ls hl => ?_)
  obtain ⟨⟨tx, ngx, scx, lnx, ux, Cx, Fx⟩, e_vx⟩ : ∃ z : VS, z = vs (si (hg - 2)) := ⟨_, rfl⟩
  obtain ⟨⟨ty, ngy, scy, lny, uy, Cy, Fy⟩, e_vy⟩ : ∃ z : VS, z = vs (si (hg - 1)) := ⟨_, rfl⟩
  have hP := va_P_pm (wMr_p (fV2 (dA := dA) (b := b) (vs := vs) (tp := tp) (k := si (hg - 2)) (j := si (hg - 1)) (by omega) (by omega) hne)) hP
  have hD := va_D_pm (wMr_p (fV2 (dA := dA) (b := b) (vs := vs) (tp := tp) (k := si (hg - 2)) (j := si (hg - 1)) (by omega) (by omega) hne)) hD
  rw [← e_vx, ← e_vy, ← e_a1, ← e_a2] at hP hD
  have hP : va_P (dC, dI) vwCl (wMr dA b tr hg wk at_ en cm rg st0 en0 lg tR ngR scR lnR uR lu ru su qu pl rv si D CR FR LF RF SF QF P (wVx dA a1 tx ngx scx lnx ux Cx Fx (wVx dA a2 ty ngy scy lny uy Cy Fy (tV2 dA b vs tp (si (hg - 2)) (si (hg - 1)))))) H := hP
  have hD : va_D A (wMr dA b tr hg wk at_ en cm rg st0 en0 lg tR ngR scR lnR uR lu ru su qu pl rv si D CR FR LF RF SF QF P (wVx dA a1 tx ngx scx lnx ux Cx Fx (wVx dA a2 ty ngy scy lny uy Cy Fy (tV2 dA b vs tp (si (hg - 2)) (si (hg - 1)))))) := hD
  rw [← e_vx] at hCVx
  rw [← e_vy] at hCVy
  obtain ⟨Nx9, hVx, hWx, hx1, hx2, hx3, hx4, hx5⟩ := hCVx
  obtain ⟨Ny9, hVy, hWy, hy1, hy2, hy3, hy4, hy5⟩ := hCVy
  have hVx : VV tx ngx scx lnx Cx Nx9 := hVx
  have hWx : WR Fx ux Nx9 := hWx
  have hVy : VV ty ngy scy lny Cy Ny9 := hVy
  have hWy : WR Fy uy Ny9 := hWy
  refine lv_aload_n hx hb dMr_choose_25 rfl (lv_at hl 2 rfl) ?_
  refine va_get (D := (dC, dI)) (ci := 6) (v := .ref (b + 11)) (C := "MacroReckoner") (T := TMr) (N := 11) hx hb hts inMr hown hK hP 0 rfl rfl 9 (by decide) (hts _ wt1_182) (fun _ h9 => h9) rfl dMr_choose_26 ?_
  refine lv_aload hx hb dMr_choose_29 (lv_at hl 0 rfl) ?_
  refine lv_aload_n hx hb dMr_choose_31 rfl (lv_at hl 1 rfl) ?_
  refine cvT_i (we := wMr dA b tr hg wk at_ en cm rg st0 en0 lg tR ngR scR lnR uR lu ru su qu pl rv si D CR FR LF RF SF QF P (wVx dA a1 tx ngx scx lnx ux Cx Fx (wVx dA a2 ty ngy scy lny uy Cy Fy []))) (tl := tV2 dA b vs tp (si (hg - 2)) (si (hg - 1))) (va_runV (C := "MacroReckoner$Arithmetic") (As := [.ref a2, .ref a1]) (rest := []) ⟨hx, hb, hml, hown, hts⟩ (cAr_order l dC dI dA dS (b + 11) (b + 12) (b + 14) (b + 16) (b + 18) (b + 7) (b + 13) LF lu (b + 15) RF ru a2 (a2 + 1) (a2 + 3) ty ngy scy Cy lny (a2 + 2) Fy uy Ny9 a1 (a1 + 1) (a1 + 3) tx ngx scx Cx lnx (a1 + 2) Fx ux Nx9 (by exact hVy) (by exact hWy) (by exact hVx) (by exact hWx) H.size) (cwV 2 hts (gdV wt4_31 wt4_32 wt4_33 wt1_6 wt4_34) rfl rfl rfl ⟨rfl, by decide, by decide, by decide +kernel⟩ ⟨by decide, by decide⟩) (preV (q := ("MacroReckoner$Arithmetic", TAr, 5)) hK hP hD hS hA (XC_ok dS) hX [11, 12, 13, 14, 15, 26, 29, 27, 28, 22, 25, 23, 24] rfl rfl 0 rfl rfl) rfl rfl hl.1 rfl (lv_room (Nat.le_of_ble_eq_true rfl)) dMr_choose_32 ⟨Nat.zero_le _, Nat.zero_le _⟩) hP hD hS hA [11, 12, 13, 14, 15, 26, 29, 27, 28, 22, 25, 23, 24] [0, 1, 2, 3, 4, 5, 6, 7, 8, 9, 10, 16, 17, 18, 19, 20, 21] rfl (fun v_ => wMr dA b tr hg wk at_ en cm rg st0 en0 lg tR ngR scR lnR uR v_.2.1 v_.2.2.2 su qu pl rv si D CR FR v_.1 v_.2.2.1 SF QF P (wVx dA a1 tx ngx scx lnx ux Cx Fx (wVx dA a2 ty ngy scy lny uy Cy Fy []))) (fun _ => rfl) ((b, .inr (6, [.ref (b + 1), .ref (b + 3), .int (iI tr), .ref (b + 4), .ref (b + 5), .int (iI hg), .ref (b + 6), .int (iI wk), .ref (b + 7), .ref (b + 11), .ref (b + 20)])) :: (b + 1, .inr (2, [.ref (b + 2), .int (iI at_), .int (iI en)])) :: (b + 2, .inl (dA 1, 100, .inl (arI D))) :: (b + 3, .inl (dA 5, 8, .inr (.inr (.inr (.inr (arR (tfA b))))))) :: (b + 4, .inr (3, [.int (iI cm), .int (iI rg), rv, .int (iI st0), .int (iI en0), .int (iI lg)])) :: (b + 5, .inl (dA 4, 20, .inr (.inr (.inr (.inr (arR (sfA b si))))))) :: (b + 6, .inl (dA 4, 26, .inr (.inr (.inr (.inr (arR (rfA b))))))) :: (b + 7, .inr (4, [.int (iI tR), .ref (b + 8), .int (iI ngR), .int (iI scR), .ref (b + 10), .int (iI lnR)])) :: (b + 8, .inr (5, [.ref (b + 9), .int (iI uR)])) :: (b + 9, .inl (dA 0, 32, .inl (arI FR))) :: (b + 10, .inl (dA 1, 60, .inl (arI CR))) :: (b + 16, .inr (5, [.ref (b + 17), .int (iI su)])) :: (b + 17, .inl (dA 0, 32, .inl (arI SF))) :: (b + 18, .inr (5, [.ref (b + 19), .int (iI qu)])) :: (b + 19, .inl (dA 0, 32, .inl (arI QF))) :: (b + 20, .inr (1, [.ref (b + 21), .int (iI pl)])) :: (b + 21, .inl (dA 1, 200, .inl (arI P))) :: []) rfl (fun _ => rfl) [b, b + 1, b + 2, b + 3, b + 4, b + 5, b + 6, b + 7, b + 8, b + 9, b + 10, b + 11, b + 12, b + 13, b + 14, b + 15, b + 16, b + 17, b + 18, b + 19, b + 20, b + 21, a1, a1 + 1, a1 + 2, a1 + 3, a2, a2 + 1, a2 + 2, a2 + 3] rfl (fun _ => rfl) (fun _ => rfl) (fun o9 u_ H locs hq32 hP hD hS => ?_)
  obtain ⟨LF1_32, lu1_32, RF1_32, ru1_32⟩ := u_
  have hP : va_P (dC, dI) vwCl (wMr dA b tr hg wk at_ en cm rg st0 en0 lg tR ngR scR lnR uR lu1_32 ru1_32 su qu pl rv si D CR FR LF1_32 RF1_32 SF QF P (wVx dA a1 tx ngx scx lnx ux Cx Fx (wVx dA a2 ty ngy scy lny uy Cy Fy (tV2 dA b vs tp (si (hg - 2)) (si (hg - 1)))))) H := hP
  have hD : va_D A (wMr dA b tr hg wk at_ en cm rg st0 en0 lg tR ngR scR lnR uR lu1_32 ru1_32 su qu pl rv si D CR FR LF1_32 RF1_32 SF QF P (wVx dA a1 tx ngx scx lnx ux Cx Fx (wVx dA a2 ty ngy scy lny uy Cy Fy (tV2 dA b vs tp (si (hg - 2)) (si (hg - 1)))))) := hD
  have hq32 : (sg ngy (Ny9 * PW 10 (max scy scx - scy)) < sg ngx (Nx9 * PW 10 (max scy scx - scx)) ∧ o9 = -1) ∨ (sg ngy (Ny9 * PW 10 (max scy scx - scy)) = sg ngx (Nx9 * PW 10 (max scy scx - scx)) ∧ o9 = 0) ∨ (sg ngx (Nx9 * PW 10 (max scy scx - scx)) < sg ngy (Ny9 * PW 10 (max scy scx - scy)) ∧ o9 = 1) := hq32
  have hho := hold_e (c := c0) (by omega) (ord_e (tx := 0) (lnx := 0) (ty := 0) (lny := 0) (a := (st.stk (st.h - 1))) (b := (st.stk (st.h - 2))) hy2 hy3 hx2 hx3 hq32)
  have hob : -1 ≤ o9 ∧ o9 ≤ 1 := by rcases hq32 with ⟨-, z⟩ | ⟨-, z⟩ | ⟨-, z⟩ <;> omega
  clear hq32
  clear hq32
  rw [e_a1, e_a2] at hP hD
  have hP := va_P_pm (wMr_p (uV2 (dA := dA) (b := b) (vs := vs) (tp := tp) (k := si (hg - 2)) (j := si (hg - 1)) (v := (tx, ngx, scx, lnx, ux, Cx, Fx)) (w := (ty, ngy, scy, lny, uy, Cy, Fy)) (by omega) (by omega) hne)) hP
  have hD := va_D_pm (wMr_p (uV2 (dA := dA) (b := b) (vs := vs) (tp := tp) (k := si (hg - 2)) (j := si (hg - 1)) (v := (tx, ngx, scx, lnx, ux, Cx, Fx)) (w := (ty, ngy, scy, lny, uy, Cy, Fy)) (by omega) (by omega) hne)) hD
  rw [upF_id2 hne e_vy] at hP hD
  rw [upF_id e_vx] at hP hD
  have hP : va_P (dC, dI) vwCl (wMr dA b tr hg wk at_ en cm rg st0 en0 lg tR ngR scR lnR uR lu1_32 ru1_32 su qu pl rv si D CR FR LF1_32 RF1_32 SF QF P (tl0 dA b vs tp)) H := hP
  have hD : va_D A (wMr dA b tr hg wk at_ en cm rg st0 en0 lg tR ngR scR lnR uR lu1_32 ru1_32 su qu pl rv si D CR FR LF1_32 RF1_32 SF QF P (tl0 dA b vs tp)) := hD
  refine lv_istore (lv' := [(5, .int (iI o9)), (4, .ref a2), (3, .ref a1), (0, .ref b), (1, .int (iI c0)), (2, .ref (b + 38 + 4 * (20 + (rx).toNat)))]) hx hb dMr_choose_35 hl (by decide) rfl (fun ls hl => ?_)
  refine lv_iload_n hx hb dMr_choose_37 rfl (lv_at hl 4 rfl) ?_
  refine lv_bipush (v := iI 60) hx hb dMr_choose_38 (by decide) ?_
  have J87 : ∀ (rn : Int) (H : Heap) (locs : List Loc) (ls : Array Slot), ((rn = 1 ∧ holdsA c0 (st.stk (st.h - 1)) (st.stk (st.h - 2))) ∨ (rn = 0 ∧ ¬ holdsA c0 (st.stk (st.h - 1)) (st.stk (st.h - 2)))) → va_P (dC, dI) vwCl (wMr dA b tr hg wk at_ en cm rg st0 en0 lg tR ngR scR lnR uR lu1_32 ru1_32 su qu pl rv si D CR FR LF1_32 RF1_32 SF QF P (tl0 dA b vs tp)) H → va_D A (wMr dA b tr hg wk at_ en cm rg st0 en0 lg tR ngR scR lnR uR lu1_32 ru1_32 su qu pl rv si D CR FR LF1_32 RF1_32 SF QF P (tl0 dA b vs tp)) → va_S A s.heap H locs → lv_has ls 8 [(5, .int (iI o9)), (4, .ref a2), (3, .ref a1), (0, .ref b), (1, .int (iI c0)), (2, .ref (b + 38 + 4 * (20 + (rx).toNat))), (6, .int (iI rn))] → W p l e rmMr_choose s m [.ref b, .int (iI c0), .ref (b + 38 + 4 * (20 + (rx).toNat))].toArray below meth c H locs 0 0 (MQ below (qMr_choose dC dI dA dS b tr hg wk at_ en cm rg st0 en0 lg tR ngR scR lnR uR lu ru su qu pl rv si D CR FR LF RF SF QF P vs tp st c0 rx A) [.ref b, .int (iI c0), .ref (b + 38 + 4 * (20 + (rx).toNat))].toArray s 0 0 A) (F0 m 87 ls []) := by
    intro rn H locs ls hrn hP hD hS hl
    have hrb : rn = 0 ∨ rn = 1 := by rcases hrn with ⟨z, -⟩ | ⟨z, -⟩ <;> omega
    refine lv_iload hx hb dMr_choose_87 (lv_at hl 6 rfl) ?_
    refine iv_if_eq (tgt := 107) hx hb dMr_choose_89 (by decide) ⟨by omega, by omega⟩ (fun hc89 => ?_) (fun hc89 => ?_)
    · refine lv_iconst (v := iI 0) hx hb dMr_choose_107 rfl ?_
      refine lv_istore (lv' := [(7, .int (iI 0)), (5, .int (iI o9)), (4, .ref a2), (3, .ref a1), (0, .ref b), (1, .int (iI c0)), (2, .ref (b + 38 + 4 * (20 + (rx).toNat))), (6, .int (iI rn))]) hx hb dMr_choose_108 hl (by decide) rfl (fun ls hl => ?_)
      refine lv_iload hx hb dMr_choose_110 (lv_at hl 0 rfl) ?_
      refine iv_if_ne (tgt := 125) hx hb dMr_choose_112 (by decide) ⟨by decide, by decide⟩ (fun hc112 => absurd hc112 (by omega)) (fun hc112 => ?_)
      refine lv_aload_n hx hb dMr_choose_115 rfl (lv_at hl 4 rfl) ?_
      refine lv_dup hx hb dMr_choose_116 rfl ?_
      refine va_get (D := (dC, dI)) (ci := 6) (v := .int (iI hg)) (C := "MacroReckoner") (T := TMr) (N := 11) hx hb hts inMr hown hK hP 0 rfl rfl 5 (by decide) (hts _ wt1_178) (fun _ h9 => h9) rfl dMr_choose_117 ?_
      refine lv_iconst (v := iI 2) hx hb dMr_choose_120 rfl ?_
      refine iv_isub hx hb dMr_choose_121 ?_
      refine va_put (D := (dC, dI)) (ci := 6) (v := .int (iI (hg - 2))) (ty := .int) (C := "MacroReckoner") (T := TMr) (N := 11) hx hb hts inMr tyMr tyMr_ok nmMr hown hK hP hD hS 0 rfl rfl 5 (by decide) (hts _ wt1_178) (fun _ h9 => h9) rfl (by decide +kernel) rfl rfl (Nat.le_of_ble_eq_true rfl) dMr_choose_122 (fun H locs hP hD hS => ?_)
      have hP : va_P (dC, dI) vwCl (wMr dA b tr (hg - 2) wk at_ en cm rg st0 en0 lg tR ngR scR lnR uR lu1_32 ru1_32 su qu pl rv si D CR FR LF1_32 RF1_32 SF QF P (tl0 dA b vs tp)) H := hP
      have hD : va_D A (wMr dA b tr (hg - 2) wk at_ en cm rg st0 en0 lg tR ngR scR lnR uR lu1_32 ru1_32 su qu pl rv si D CR FR LF1_32 RF1_32 SF QF P (tl0 dA b vs tp)) := hD
      refine lv_iload hx hb dMr_choose_125 (lv_at hl 0 rfl) ?_
      exact rt_i hx hb hr hlocks hK hS dMr_choose_127 (hg - 2, tr, tp, LF1_32, lu1_32, RF1_32, ru1_32) hP hD (show 0 = (choA st c0 rx).1 ∧ (hg - 2) = (choA st c0 rx).2.h ∧ CX tp tr (choA st c0 rx).2 from by first | (have hx9 := (hrn.resolve_left (fun z => by omega)).2; rw [cho_n hx9]; exact ⟨rfl, by show hg - 2 = st.h - 2; omega, CX_c hCX rfl rfl rfl⟩) | (have hx9 := (hrn.resolve_right (fun z => by omega)).2; have hbz : (begA st (st.reg rx)).1 ≠ 0 := (by have h := hq101.1; omega); have h := cho_f (c := c0) hx9 hbz; rw [h.1]; have h2 := hq101.2; rw [h.2] at h2; exact ⟨hq101.1, hh.1, h2⟩) | (have hx9 := (hrn.resolve_right (fun z => by omega)).2; rw [cho_0 hx9 (by have h := hq101.1; omega)]; exact ⟨by omega, by show hg - 2 = st.h - 2; omega, CX_c hq101.2 rfl rfl rfl⟩) | (have hx9 := (hrn.resolve_right (fun z => by omega)).2; have hbn := begA_n (st := st) (a := (st.reg rx)) (by omega); rw [cho_0 hx9 (by rw [hbn]), hbn]; exact ⟨rfl, by show hg - 2 = st.h - 2; omega, CX_c hCX rfl rfl rfl⟩))
    · have hCR := hCH.2.2.2.2.1 rx (by omega) (by omega)
      have hCR0 := hCR
      obtain ⟨⟨tv, ngv, scv, lnv, uv, Cv, Fv⟩, e_vv⟩ : ∃ z : VS, z = vs (20 + (rx).toNat) := ⟨_, rfl⟩
      have hP := va_P_pm (wMr_p (fV1 (dA := dA) (b := b) (vs := vs) (tp := tp) (k := 20 + (rx).toNat) (by omega))) hP
      have hD := va_D_pm (wMr_p (fV1 (dA := dA) (b := b) (vs := vs) (tp := tp) (k := 20 + (rx).toNat) (by omega))) hD
      rw [← e_vv] at hP hD
      have hP : va_P (dC, dI) vwCl (wMr dA b tr hg wk at_ en cm rg st0 en0 lg tR ngR scR lnR uR lu1_32 ru1_32 su qu pl rv si D CR FR LF1_32 RF1_32 SF QF P (wVx dA (b + 38 + 4 * (20 + (rx).toNat)) tv ngv scv lnv uv Cv Fv (tV1 dA b vs tp (20 + (rx).toNat)))) H := hP
      have hD : va_D A (wMr dA b tr hg wk at_ en cm rg st0 en0 lg tR ngR scR lnR uR lu1_32 ru1_32 su qu pl rv si D CR FR LF1_32 RF1_32 SF QF P (wVx dA (b + 38 + 4 * (20 + (rx).toNat)) tv ngv scv lnv uv Cv Fv (tV1 dA b vs tp (20 + (rx).toNat)))) := hD
      rw [← e_vv] at hCR
      obtain ⟨N9, hV9, hW9, ha1, ha2, ha3, ha4, ha5⟩ := hCR
      have hb1 : (st.reg rx).t = tv := ha1
      have hvv : VV tv ngv scv lnv Cv N9 := hV9
      have hv1 := hvv.1
      refine lv_aload_n hx hb dMr_choose_92 rfl (lv_at hl 5 rfl) ?_
      refine va_getN (D := (dC, dI)) (ci := 4) (v := .int (iI tv)) (C := "MacroReckoner$Value") (T := TVa) (N := 6) hx hb hts inVa hown hK hP 22 rfl rfl 0 (by decide) (va_Nw.use rfl (hX.1 ("MacroReckoner", 107, "MacroReckoner$Value", "text", "Z", "MacroReckoner") (List.mem_of_getElem? (i := 9) rfl))) (fun _ h9 => h9) rfl dMr_choose_93 ?_
      refine iv_if_eq (tgt := 107) hx hb dMr_choose_96 (by decide) ⟨by omega, by omega⟩ (fun hc96 => ?_) (fun hc96 => ?_)
      · have hP := va_P_pm (wMr_p (uV1 (dA := dA) (b := b) (vs := vs) (tp := tp) (k := 20 + (rx).toNat) (v := (tv, ngv, scv, lnv, uv, Cv, Fv)) (by omega))) hP
        have hD := va_D_pm (wMr_p (uV1 (dA := dA) (b := b) (vs := vs) (tp := tp) (k := 20 + (rx).toNat) (v := (tv, ngv, scv, lnv, uv, Cv, Fv)) (by omega))) hD
        rw [upF_id e_vv] at hP hD
        have hP : va_P (dC, dI) vwCl (wMr dA b tr hg wk at_ en cm rg st0 en0 lg tR ngR scR lnR uR lu1_32 ru1_32 su qu pl rv si D CR FR LF1_32 RF1_32 SF QF P (tl0 dA b vs tp)) H := hP
        have hD : va_D A (wMr dA b tr hg wk at_ en cm rg st0 en0 lg tR ngR scR lnR uR lu1_32 ru1_32 su qu pl rv si D CR FR LF1_32 RF1_32 SF QF P (tl0 dA b vs tp)) := hD
        refine lv_iconst (v := iI 0) hx hb dMr_choose_107 rfl ?_
        refine lv_istore (lv' := [(7, .int (iI 0)), (5, .int (iI o9)), (4, .ref a2), (3, .ref a1), (0, .ref b), (1, .int (iI c0)), (2, .ref (b + 38 + 4 * (20 + (rx).toNat))), (6, .int (iI rn))]) hx hb dMr_choose_108 hl (by decide) rfl (fun ls hl => ?_)
        refine lv_iload hx hb dMr_choose_110 (lv_at hl 0 rfl) ?_
        refine iv_if_ne (tgt := 125) hx hb dMr_choose_112 (by decide) ⟨by decide, by decide⟩ (fun hc112 => absurd hc112 (by omega)) (fun hc112 => ?_)
        refine lv_aload_n hx hb dMr_choose_115 rfl (lv_at hl 4 rfl) ?_
        refine lv_dup hx hb dMr_choose_116 rfl ?_
        refine va_get (D := (dC, dI)) (ci := 6) (v := .int (iI hg)) (C := "MacroReckoner") (T := TMr) (N := 11) hx hb hts inMr hown hK hP 0 rfl rfl 5 (by decide) (hts _ wt1_178) (fun _ h9 => h9) rfl dMr_choose_117 ?_
        refine lv_iconst (v := iI 2) hx hb dMr_choose_120 rfl ?_
        refine iv_isub hx hb dMr_choose_121 ?_
        refine va_put (D := (dC, dI)) (ci := 6) (v := .int (iI (hg - 2))) (ty := .int) (C := "MacroReckoner") (T := TMr) (N := 11) hx hb hts inMr tyMr tyMr_ok nmMr hown hK hP hD hS 0 rfl rfl 5 (by decide) (hts _ wt1_178) (fun _ h9 => h9) rfl (by decide +kernel) rfl rfl (Nat.le_of_ble_eq_true rfl) dMr_choose_122 (fun H locs hP hD hS => ?_)
        have hP : va_P (dC, dI) vwCl (wMr dA b tr (hg - 2) wk at_ en cm rg st0 en0 lg tR ngR scR lnR uR lu1_32 ru1_32 su qu pl rv si D CR FR LF1_32 RF1_32 SF QF P (tl0 dA b vs tp)) H := hP
        have hD : va_D A (wMr dA b tr (hg - 2) wk at_ en cm rg st0 en0 lg tR ngR scR lnR uR lu1_32 ru1_32 su qu pl rv si D CR FR LF1_32 RF1_32 SF QF P (tl0 dA b vs tp)) := hD
        refine lv_iload hx hb dMr_choose_125 (lv_at hl 0 rfl) ?_
        exact rt_i hx hb hr hlocks hK hS dMr_choose_127 (hg - 2, tr, tp, LF1_32, lu1_32, RF1_32, ru1_32) hP hD (show 0 = (choA st c0 rx).1 ∧ (hg - 2) = (choA st c0 rx).2.h ∧ CX tp tr (choA st c0 rx).2 from by first | (have hx9 := (hrn.resolve_left (fun z => by omega)).2; rw [cho_n hx9]; exact ⟨rfl, by show hg - 2 = st.h - 2; omega, CX_c hCX rfl rfl rfl⟩) | (have hx9 := (hrn.resolve_right (fun z => by omega)).2; have hbz : (begA st (st.reg rx)).1 ≠ 0 := (by have h := hq101.1; omega); have h := cho_f (c := c0) hx9 hbz; rw [h.1]; have h2 := hq101.2; rw [h.2] at h2; exact ⟨hq101.1, hh.1, h2⟩) | (have hx9 := (hrn.resolve_right (fun z => by omega)).2; rw [cho_0 hx9 (by have h := hq101.1; omega)]; exact ⟨by omega, by show hg - 2 = st.h - 2; omega, CX_c hq101.2 rfl rfl rfl⟩) | (have hx9 := (hrn.resolve_right (fun z => by omega)).2; have hbn := begA_n (st := st) (a := (st.reg rx)) (by omega); rw [cho_0 hx9 (by rw [hbn]), hbn]; exact ⟨rfl, by show hg - 2 = st.h - 2; omega, CX_c hCX rfl rfl rfl⟩))
      · have hP := va_P_pm (wMr_p (uV1 (dA := dA) (b := b) (vs := vs) (tp := tp) (k := 20 + (rx).toNat) (v := (tv, ngv, scv, lnv, uv, Cv, Fv)) (by omega))) hP
        have hD := va_D_pm (wMr_p (uV1 (dA := dA) (b := b) (vs := vs) (tp := tp) (k := 20 + (rx).toNat) (v := (tv, ngv, scv, lnv, uv, Cv, Fv)) (by omega))) hD
        rw [upF_id e_vv] at hP hD
        have hP : va_P (dC, dI) vwCl (wMr dA b tr hg wk at_ en cm rg st0 en0 lg tR ngR scR lnR uR lu1_32 ru1_32 su qu pl rv si D CR FR LF1_32 RF1_32 SF QF P (tl0 dA b vs tp)) H := hP
        have hD : va_D A (wMr dA b tr hg wk at_ en cm rg st0 en0 lg tR ngR scR lnR uR lu1_32 ru1_32 su qu pl rv si D CR FR LF1_32 RF1_32 SF QF P (tl0 dA b vs tp)) := hD
        refine lv_aload_n hx hb dMr_choose_99 rfl (lv_at hl 3 rfl) ?_
        refine lv_aload_n hx hb dMr_choose_100 rfl (lv_at hl 5 rfl) ?_
        refine cvA_i (va_runV (C := "MacroReckoner") (As := [.ref (b + 38 + 4 * (20 + (rx).toNat))]) (rest := []) ⟨hx, hb, hml, hown, hts⟩ (cMr_beginText l dC dI dA dS b tr hg wk at_ en cm rg st0 en0 lg tR ngR scR lnR uR lu1_32 ru1_32 su qu pl rv si D CR FR LF1_32 RF1_32 SF QF P vs tp st ((st.reg rx)) (20 + (rx).toNat) (by exact hCX) (by omega) (by exact hCR0) (by omega) H.size) (cwV 1 hts (gdV wt4_18 wt4_20 ws3_3 wt1_1 wt4_21) rfl rfl rfl ⟨rfl, by decide, by decide, by decide +kernel⟩ ⟨by decide, by decide⟩) (preVA (q := ("MacroReckoner", TMr, 11)) hK hP hD hS hA (XC_ok dS) hX 0 rfl rfl) rfl rfl hl.1 rfl (lv_room (Nat.le_of_ble_eq_true rfl)) dMr_choose_101 ⟨Nat.zero_le _, Nat.zero_le _⟩) hD hS hA (fun b9 u_ H locs hq101 hP hD hS => ?_)
        obtain ⟨tr1_101, tp1_101⟩ := u_
        have hP : va_P (dC, dI) vwCl (wMr dA b tr1_101 hg wk at_ en cm rg st0 en0 lg tR ngR scR lnR uR lu1_32 ru1_32 su qu pl ((rv)) si D CR FR LF1_32 RF1_32 SF QF P (tl0 dA b vs tp1_101)) H := hP
        have hD : va_D A (wMr dA b tr1_101 hg wk at_ en cm rg st0 en0 lg tR ngR scR lnR uR lu1_32 ru1_32 su qu pl ((rv)) si D CR FR LF1_32 RF1_32 SF QF P (tl0 dA b vs tp1_101)) := hD
        have hq101 : b9 = (begA st ((st.reg rx))).1 ∧ CX tp1_101 tr1_101 (begA st ((st.reg rx))).2 := hq101
        have hbc := begA_c (st := st) (a := (st.reg rx))
        have hrb9 : b9 = 0 ∨ b9 = -9 := by have h := hq101.1; omega
        refine lv_goto (tgt := 108) hx hb dMr_choose_104 (by decide) ?_
        refine lv_istore (lv' := [(7, .int (iI b9)), (5, .int (iI o9)), (4, .ref a2), (3, .ref a1), (0, .ref b), (1, .int (iI c0)), (2, .ref (b + 38 + 4 * (20 + (rx).toNat))), (6, .int (iI rn))]) hx hb dMr_choose_108 hl (by decide) rfl (fun ls hl => ?_)
        refine lv_iload hx hb dMr_choose_110 (lv_at hl 0 rfl) ?_
        refine iv_if_ne (tgt := 125) hx hb dMr_choose_112 (by decide) ⟨by omega, by omega⟩ (fun hc112 => ?_) (fun hc112 => ?_)
        · refine lv_iload hx hb dMr_choose_125 (lv_at hl 0 rfl) ?_
          exact rt_i hx hb hr hlocks hK hS dMr_choose_127 (hg, tr1_101, tp1_101, LF1_32, lu1_32, RF1_32, ru1_32) hP hD (show b9 = (choA st c0 rx).1 ∧ hg = (choA st c0 rx).2.h ∧ CX tp1_101 tr1_101 (choA st c0 rx).2 from by first | (have hx9 := (hrn.resolve_left (fun z => by omega)).2; rw [cho_n hx9]; exact ⟨rfl, by show hg - 2 = st.h - 2; omega, CX_c hCX rfl rfl rfl⟩) | (have hx9 := (hrn.resolve_right (fun z => by omega)).2; have hbz : (begA st (st.reg rx)).1 ≠ 0 := (by have h := hq101.1; omega); have h := cho_f (c := c0) hx9 hbz; rw [h.1]; have h2 := hq101.2; rw [h.2] at h2; exact ⟨hq101.1, hh.1, h2⟩) | (have hx9 := (hrn.resolve_right (fun z => by omega)).2; rw [cho_0 hx9 (by have h := hq101.1; omega)]; exact ⟨by omega, by show hg - 2 = st.h - 2; omega, CX_c hq101.2 rfl rfl rfl⟩) | (have hx9 := (hrn.resolve_right (fun z => by omega)).2; have hbn := begA_n (st := st) (a := (st.reg rx)) (by omega); rw [cho_0 hx9 (by rw [hbn]), hbn]; exact ⟨rfl, by show hg - 2 = st.h - 2; omega, CX_c hCX rfl rfl rfl⟩))
        · refine lv_aload_n hx hb dMr_choose_115 rfl (lv_at hl 4 rfl) ?_
          refine lv_dup hx hb dMr_choose_116 rfl ?_
          refine va_get (D := (dC, dI)) (ci := 6) (v := .int (iI hg)) (C := "MacroReckoner") (T := TMr) (N := 11) hx hb hts inMr hown hK hP 0 rfl rfl 5 (by decide) (hts _ wt1_178) (fun _ h9 => h9) rfl dMr_choose_117 ?_
          refine lv_iconst (v := iI 2) hx hb dMr_choose_120 rfl ?_
          refine iv_isub hx hb dMr_choose_121 ?_
          refine va_put (D := (dC, dI)) (ci := 6) (v := .int (iI (hg - 2))) (ty := .int) (C := "MacroReckoner") (T := TMr) (N := 11) hx hb hts inMr tyMr tyMr_ok nmMr hown hK hP hD hS 0 rfl rfl 5 (by decide) (hts _ wt1_178) (fun _ h9 => h9) rfl (by decide +kernel) rfl rfl (Nat.le_of_ble_eq_true rfl) dMr_choose_122 (fun H locs hP hD hS => ?_)
          have hP : va_P (dC, dI) vwCl (wMr dA b tr1_101 (hg - 2) wk at_ en cm rg st0 en0 lg tR ngR scR lnR uR lu1_32 ru1_32 su qu pl ((rv)) si D CR FR LF1_32 RF1_32 SF QF P (tl0 dA b vs tp1_101)) H := hP
          have hD : va_D A (wMr dA b tr1_101 (hg - 2) wk at_ en cm rg st0 en0 lg tR ngR scR lnR uR lu1_32 ru1_32 su qu pl ((rv)) si D CR FR LF1_32 RF1_32 SF QF P (tl0 dA b vs tp1_101)) := hD
          refine lv_iload hx hb dMr_choose_125 (lv_at hl 0 rfl) ?_
          exact rt_i hx hb hr hlocks hK hS dMr_choose_127 (hg - 2, tr1_101, tp1_101, LF1_32, lu1_32, RF1_32, ru1_32) hP hD (show b9 = (choA st c0 rx).1 ∧ (hg - 2) = (choA st c0 rx).2.h ∧ CX tp1_101 tr1_101 (choA st c0 rx).2 from by first | (have hx9 := (hrn.resolve_left (fun z => by omega)).2; rw [cho_n hx9]; exact ⟨rfl, by show hg - 2 = st.h - 2; omega, CX_c hCX rfl rfl rfl⟩) | (have hx9 := (hrn.resolve_right (fun z => by omega)).2; have hbz : (begA st (st.reg rx)).1 ≠ 0 := (by have h := hq101.1; omega); have h := cho_f (c := c0) hx9 hbz; rw [h.1]; have h2 := hq101.2; rw [h.2] at h2; exact ⟨hq101.1, hh.1, h2⟩) | (have hx9 := (hrn.resolve_right (fun z => by omega)).2; rw [cho_0 hx9 (by have h := hq101.1; omega)]; exact ⟨by omega, by show hg - 2 = st.h - 2; omega, CX_c hq101.2 rfl rfl rfl⟩) | (have hx9 := (hrn.resolve_right (fun z => by omega)).2; have hbn := begA_n (st := st) (a := (st.reg rx)) (by omega); rw [cho_0 hx9 (by rw [hbn]), hbn]; exact ⟨rfl, by show hg - 2 = st.h - 2; omega, CX_c hCX rfl rfl rfl⟩))
  refine iv_icmp_ne (tgt := 56) hx hb dMr_choose_40 (by decide) ⟨by omega, by omega⟩ ⟨by decide, by decide⟩ (fun hc40 => ?_) (fun hc40 => ?_)
  · refine lv_iload_n hx hb dMr_choose_56 rfl (lv_at hl 4 rfl) ?_
    refine lv_bipush (v := iI 62) hx hb dMr_choose_57 (by decide) ?_
    refine iv_icmp_ne (tgt := 75) hx hb dMr_choose_59 (by decide) ⟨by omega, by omega⟩ ⟨by decide, by decide⟩ (fun hc59 => ?_) (fun hc59 => ?_)
    · refine lv_iload hx hb dMr_choose_75 (lv_at hl 0 rfl) ?_
      refine iv_if_ne (tgt := 84) hx hb dMr_choose_77 (by decide) ⟨by omega, by omega⟩ (fun hc77 => ?_) (fun hc77 => ?_)
      · refine lv_iconst (v := iI 0) hx hb dMr_choose_84 rfl ?_
        refine lv_istore (lv' := [(6, .int (iI 0)), (5, .int (iI o9)), (4, .ref a2), (3, .ref a1), (0, .ref b), (1, .int (iI c0)), (2, .ref (b + 38 + 4 * (20 + (rx).toNat)))]) hx hb dMr_choose_85 hl (by decide) rfl (fun ls hl => ?_)
        exact J87 0 H locs ls (by rw [hho]; omega) hP hD hS (lv_sub hl [1, 2, 3, 4, 5, 6, 0] rfl)
      · refine lv_iconst (v := iI 1) hx hb dMr_choose_80 rfl ?_
        refine lv_goto (tgt := 85) hx hb dMr_choose_81 (by decide) ?_
        refine lv_istore (lv' := [(6, .int (iI 1)), (5, .int (iI o9)), (4, .ref a2), (3, .ref a1), (0, .ref b), (1, .int (iI c0)), (2, .ref (b + 38 + 4 * (20 + (rx).toNat)))]) hx hb dMr_choose_85 hl (by decide) rfl (fun ls hl => ?_)
        exact J87 1 H locs ls (by rw [hho]; omega) hP hD hS (lv_sub hl [1, 2, 3, 4, 5, 6, 0] rfl)
    · refine lv_iload hx hb dMr_choose_62 (lv_at hl 0 rfl) ?_
      refine iv_if_le (tgt := 71) hx hb dMr_choose_64 (by decide) ⟨by omega, by omega⟩ (fun hc64 => ?_) (fun hc64 => ?_)
      · refine lv_iconst (v := iI 0) hx hb dMr_choose_71 rfl ?_
        refine lv_goto (tgt := 85) hx hb dMr_choose_72 (by decide) ?_
        refine lv_istore (lv' := [(6, .int (iI 0)), (5, .int (iI o9)), (4, .ref a2), (3, .ref a1), (0, .ref b), (1, .int (iI c0)), (2, .ref (b + 38 + 4 * (20 + (rx).toNat)))]) hx hb dMr_choose_85 hl (by decide) rfl (fun ls hl => ?_)
        exact J87 0 H locs ls (by rw [hho]; omega) hP hD hS (lv_sub hl [1, 2, 3, 4, 5, 6, 0] rfl)
      · refine lv_iconst (v := iI 1) hx hb dMr_choose_67 rfl ?_
        refine lv_goto (tgt := 85) hx hb dMr_choose_68 (by decide) ?_
        refine lv_istore (lv' := [(6, .int (iI 1)), (5, .int (iI o9)), (4, .ref a2), (3, .ref a1), (0, .ref b), (1, .int (iI c0)), (2, .ref (b + 38 + 4 * (20 + (rx).toNat)))]) hx hb dMr_choose_85 hl (by decide) rfl (fun ls hl => ?_)
        exact J87 1 H locs ls (by rw [hho]; omega) hP hD hS (lv_sub hl [1, 2, 3, 4, 5, 6, 0] rfl)
  · refine lv_iload hx hb dMr_choose_43 (lv_at hl 0 rfl) ?_
    refine iv_if_ge (tgt := 52) hx hb dMr_choose_45 (by decide) ⟨by omega, by omega⟩ (fun hc45 => ?_) (fun hc45 => ?_)
    · refine lv_iconst (v := iI 0) hx hb dMr_choose_52 rfl ?_
      refine lv_goto (tgt := 85) hx hb dMr_choose_53 (by decide) ?_
      refine lv_istore (lv' := [(6, .int (iI 0)), (5, .int (iI o9)), (4, .ref a2), (3, .ref a1), (0, .ref b), (1, .int (iI c0)), (2, .ref (b + 38 + 4 * (20 + (rx).toNat)))]) hx hb dMr_choose_85 hl (by decide) rfl (fun ls hl => ?_)
      exact J87 0 H locs ls (by rw [hho]; omega) hP hD hS (lv_sub hl [1, 2, 3, 4, 5, 6, 0] rfl)
    · refine lv_iconst (v := iI 1) hx hb dMr_choose_48 rfl ?_
      refine lv_goto (tgt := 85) hx hb dMr_choose_49 (by decide) ?_
      refine lv_istore (lv' := [(6, .int (iI 1)), (5, .int (iI o9)), (4, .ref a2), (3, .ref a1), (0, .ref b), (1, .int (iI c0)), (2, .ref (b + 38 + 4 * (20 + (rx).toNat)))]) hx hb dMr_choose_85 hl (by decide) rfl (fun ls hl => ?_)
      exact J87 1 H locs ls (by rw [hho]; omega) hP hD hS (lv_sub hl [1, 2, 3, 4, 5, 6, 0] rfl)
