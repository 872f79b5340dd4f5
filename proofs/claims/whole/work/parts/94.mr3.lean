theorem dMr_printTop_0 : decode prog_1_method_28_code 0 = .ok (.aload_n 0, 1) := by decide +kernel
theorem dMr_printTop_1 : decode prog_1_method_28_code 1 = .ok (.getfield 35, 3) := by decide +kernel
theorem dMr_printTop_4 : decode prog_1_method_28_code 4 = .ok (.aload_n 0, 1) := by decide +kernel
theorem dMr_printTop_5 : decode prog_1_method_28_code 5 = .ok (.getfield 39, 3) := by decide +kernel
theorem dMr_printTop_8 : decode prog_1_method_28_code 8 = .ok (.iconst 1, 1) := by decide +kernel
theorem dMr_printTop_9 : decode prog_1_method_28_code 9 = .ok (.isub, 1) := by decide +kernel
theorem dMr_printTop_10 : decode prog_1_method_28_code 10 = .ok (.aaload, 1) := by decide +kernel
theorem dMr_printTop_11 : decode prog_1_method_28_code 11 = .ok (.astore_n 1, 1) := by decide +kernel
theorem dMr_printTop_12 : decode prog_1_method_28_code 12 = .ok (.aload_n 1, 1) := by decide +kernel
theorem dMr_printTop_13 : decode prog_1_method_28_code 13 = .ok (.invokevirtual 265, 3) := by decide +kernel
theorem dMr_printTop_16 : decode prog_1_method_28_code 16 = .ok (.iconst 1, 1) := by decide +kernel
theorem dMr_printTop_17 : decode prog_1_method_28_code 17 = .ok (.iadd, 1) := by decide +kernel
theorem dMr_printTop_18 : decode prog_1_method_28_code 18 = .ok (.aload_n 0, 1) := by decide +kernel
theorem dMr_printTop_19 : decode prog_1_method_28_code 19 = .ok (.getfield 65, 3) := by decide +kernel
theorem dMr_printTop_22 : decode prog_1_method_28_code 22 = .ok (.invokevirtual 268, 3) := by decide +kernel
theorem dMr_printTop_25 : decode prog_1_method_28_code 25 = .ok (.if_icmp .le 6, 3) := by decide +kernel
theorem dMr_printTop_28 : decode prog_1_method_28_code 28 = .ok (.bipush (-10), 2) := by decide +kernel
theorem dMr_printTop_30 : decode prog_1_method_28_code 30 = .ok (.ireturn, 1) := by decide +kernel
theorem dMr_printTop_31 : decode prog_1_method_28_code 31 = .ok (.aload_n 0, 1) := by decide +kernel
theorem dMr_printTop_32 : decode prog_1_method_28_code 32 = .ok (.getfield 65, 3) := by decide +kernel
theorem dMr_printTop_35 : decode prog_1_method_28_code 35 = .ok (.aload_n 1, 1) := by decide +kernel
theorem dMr_printTop_36 : decode prog_1_method_28_code 36 = .ok (.invokevirtual 271, 3) := by decide +kernel
theorem dMr_printTop_39 : decode prog_1_method_28_code 39 = .ok (.aload_n 0, 1) := by decide +kernel
theorem dMr_printTop_40 : decode prog_1_method_28_code 40 = .ok (.getfield 65, 3) := by decide +kernel
theorem dMr_printTop_43 : decode prog_1_method_28_code 43 = .ok (.bipush 10, 2) := by decide +kernel
theorem dMr_printTop_45 : decode prog_1_method_28_code 45 = .ok (.invokevirtual 274, 3) := by decide +kernel
theorem dMr_printTop_48 : decode prog_1_method_28_code 48 = .ok (.iconst 0, 1) := by decide +kernel
theorem dMr_printTop_49 : decode prog_1_method_28_code 49 = .ok (.ireturn, 1) := by decide +kernel
abbrev qMr_printTop (dC : Nat → ClassId) (dI : Nat → Nat → Nat) (dA : Nat → ClassId) (dS : Nat → Nat) (b : Nat) (tr : Int) (hg : Int) (wk : Int) (at_ : Int) (en : Int) (cm : Int) (rg : Int) (st0 : Int) (en0 : Int) (lg : Int) (tR : Int) (ngR : Int) (scR : Int) (lnR : Int) (uR : Int) (lu : Int) (ru : Int) (su : Int) (qu : Int) (pl : Int) (rv : Value) (si : Int → Nat) (D : Int → Int) (CR : Int → Int) (FR : Int → Int) (LF : Int → Int) (RF : Int → Int) (SF : Int → Int) (QF : Int → Int) (P : Int → Int) (vs : Nat → VS) (tp : Nat → TS) (st : AS) (A : Nat → Prop) : Array Value → State → Outcome → State → Prop := QI (dC, dI) vwCl (tyA dA) (fun (r : Int) (v_ : (Int → Int) × Int) => r = (p1A st).1 ∧ MG v_.1 v_.2 (p1A st).2) (fun (v_ : (Int → Int) × Int) => wMr dA b tr hg wk at_ en cm rg st0 en0 lg tR ngR scR lnR uR lu ru su qu v_.2 rv si D CR FR LF RF SF QF v_.1 (tl0 dA b vs tp)) A
abbrev rmMr_printTop : Room := { frames := 3, cells := 0, slots := 0, locals := 67 }
set_option maxRecDepth 100000 in
set_option maxHeartbeats 1000000 in
theorem cMr_printTop (l : Launch) (dC : Nat → ClassId) (dI : Nat → Nat → Nat) (dA : Nat → ClassId) (dS : Nat → Nat) (b : Nat) (tr : Int) (hg : Int) (wk : Int) (at_ : Int) (en : Int) (cm : Int) (rg : Int) (st0 : Int) (en0 : Int) (lg : Int) (tR : Int) (ngR : Int) (scR : Int) (lnR : Int) (uR : Int) (lu : Int) (ru : Int) (su : Int) (qu : Int) (pl : Int) (rv : Value) (si : Int → Nat) (D : Int → Int) (CR : Int → Int) (FR : Int → Int) (LF : Int → Int) (RF : Int → Int) (SF : Int → Int) (QF : Int → Int) (P : Int → Int) (vs : Nat → VS) (tp : Nat → TS) (st : AS) (hCH : CH si vs hg wk st) (hg1_ : 1 ≤ hg) (hMG : MG P pl st) (sz : Nat) : Met l yMr_printTop wsMr_printTop rmMr_printTop (PC (dC, dI) vwCl (tyA dA) (XC dS) [.ref b] (wMr dA b tr hg wk at_ en cm rg st0 en0 lg tR ngR scR lnR uR lu ru su qu pl rv si D CR FR LF RF SF QF P (tl0 dA b vs tp)) sz) (qMr_printTop dC dI dA dS b tr hg wk at_ en cm rg st0 en0 lg tR ngR scR lnR uR lu ru su qu pl rv si D CR FR LF RF SF QF P vs tp st (va_A (wMr dA b tr hg wk at_ en cm rg st0 en0 lg tR ngR scR lnR uR lu ru su qu pl rv si D CR FR LF RF SF QF P (tl0 dA b vs tp)) sz)) 0 0 (va_A (wMr dA b tr hg wk at_ en cm rg st0 en0 lg tR ngR scR lnR uR lu ru su qu pl rv si D CR FR LF RF SF QF P (tl0 dA b vs tp)) sz) := by
  refine met_of (cc := prog_1_method_28_code) (maxL := 2) (ret := (some .int)) (Qc := qMr_printTop dC dI dA dS b tr hg wk at_ en cm rg st0 en0 lg tR ngR scR lnR uR lu ru su qu pl rv si D CR FR LF RF SF QF P vs tp st) (XC_ok dS) (by decide) rfl (Nat.le_of_ble_eq_true rfl) ?_
  intro p e s m below meth c ls A hx hb hr hml hown hts hlocks hnm hK hP hD hA hX hS hl
  have hl : lv_has ls 2 [(0, .ref b)] := hl
  have hown : s.vm.findClass "MacroReckoner" = some m.cls := hown
  obtain ⟨H, hH⟩ : ∃ H : Heap, H = s.heap := ⟨_, rfl⟩
  obtain ⟨locs, hlo⟩ : ∃ L : List Loc, L = [] := ⟨_, rfl⟩
  have hP : va_P (dC, dI) vwCl (wMr dA b tr hg wk at_ en cm rg st0 en0 lg tR ngR scR lnR uR lu ru su qu pl rv si D CR FR LF RF SF QF P (tl0 dA b vs tp)) H := hH ▸ hP
  have hS : va_S A s.heap H locs := by rw [hH, hlo]; exact hS
  suffices hgo : W p l e rmMr_printTop s m [.ref b].toArray below meth c H locs 0 0 (MQ below (qMr_printTop dC dI dA dS b tr hg wk at_ en cm rg st0 en0 lg tR ngR scR lnR uR lu ru su qu pl rv si D CR FR LF RF SF QF P vs tp st A) [.ref b].toArray s 0 0 A) (F0 m 0 ls []) by rw [hH, hlo] at hgo; exact hgo
  clear hH hlo
  have hh := hCH.1
  have hs9 := hCH.2.2.1 (hg - 1) (by omega) (by omega)
  have hCV := hCH.2.2.2.2.2 (hg - 1) (by omega) (by omega)
  rw [show st.stk (hg - 1) = st.stk (st.h - 1) by rw [hh.1]] at hCV
  have hg9 := hMG.1
  refine lv_aload_n hx hb dMr_printTop_0 rfl (lv_at hl 0 rfl) ?_
  refine va_get (D := (dC, dI)) (ci := 6) (v := .ref (b + 5)) (C := "MacroReckoner") (T := TMr) (N := 11) hx hb hts inMr hown hK hP 0 rfl rfl 4 (by decide) (hts _ wt1_177) (fun _ h9 => h9) rfl dMr_printTop_1 ?_
  refine lv_aload_n hx hb dMr_printTop_4 rfl (lv_at hl 0 rfl) ?_
  refine va_get (D := (dC, dI)) (ci := 6) (v := .int (iI hg)) (C := "MacroReckoner") (T := TMr) (N := 11) hx hb hts inMr hown hK hP 0 rfl rfl 5 (by decide) (hts _ wt1_178) (fun _ h9 => h9) rfl dMr_printTop_5 ?_
  refine lv_iconst (v := iI 1) hx hb dMr_printTop_8 rfl ?_
  refine iv_isub hx hb dMr_printTop_9 ?_
  refine iv_aald hx hb hK hP 5 4 rfl rfl (by decide) dMr_printTop_10 (by omega) (by omega) ?_
  refine W.eq (g2 := F0 m 11 ls [.ref (b + 38 + 4 * si (hg - 1))]) rfl ?_
  obtain ⟨a1, e_a1⟩ : ∃ z : Nat, z = b + 38 + 4 * si (hg - 1) := ⟨_, rfl⟩
  rw [← e_a1]
  refine lv_astore_n (lv' := [(1, .ref a1), (0, .ref b)]) hx hb dMr_printTop_11 rfl hl (by decide) rfl (fun ls hl => ?_)
  obtain ⟨⟨tv, ngv, scv, lnv, uv, Cv, Fv⟩, e_vv⟩ : ∃ z : VS, z = vs (si (hg - 1)) := ⟨_, rfl⟩
  have hP := va_P_pm (wMr_p (fV1 (dA := dA) (b := b) (vs := vs) (tp := tp) (k := si (hg - 1)) (by omega))) hP
  have hD := va_D_pm (wMr_p (fV1 (dA := dA) (b := b) (vs := vs) (tp := tp) (k := si (hg - 1)) (by omega))) hD
  rw [← e_vv, ← e_a1] at hP hD
  have hP : va_P (dC, dI) vwCl (wMr dA b tr hg wk at_ en cm rg st0 en0 lg tR ngR scR lnR uR lu ru su qu pl rv si D CR FR LF RF SF QF P (wVx dA a1 tv ngv scv lnv uv Cv Fv (tV1 dA b vs tp (si (hg - 1))))) H := hP
  have hD : va_D A (wMr dA b tr hg wk at_ en cm rg st0 en0 lg tR ngR scR lnR uR lu ru su qu pl rv si D CR FR LF RF SF QF P (wVx dA a1 tv ngv scv lnv uv Cv Fv (tV1 dA b vs tp (si (hg - 1))))) := hD
  rw [← e_vv] at hCV
  obtain ⟨N9, hV9, hW9, ha1, ha2, ha3, ha4, ha5⟩ := hCV
  obtain ⟨kd, pt, hkd, hpt, hlw, hlc, hlb⟩ := cv_pr (a := (st.stk (st.h - 1))) hV9 hW9 ha1 ha2 ha3 ha4 ha5
  have hV9 : VV tv ngv scv lnv Cv N9 := hV9
  have hW9 : WR Fv uv N9 := hW9
  have hpt : (0 < scv ∧ pt = 1) ∨ (scv = 0 ∧ pt = 0) := hpt
  have hlw : (tv = 1 ∧ thW (st.stk (st.h - 1)) = lnv) ∨ (tv = 0 ∧ N9 = 0 ∧ thW (st.stk (st.h - 1)) = 1) ∨ (tv = 0 ∧ N9 ≠ 0 ∧ thW (st.stk (st.h - 1)) = ngv + max kd scv + pt) := hlw
  have hlc : ∀ j, 0 ≤ j → j < thW (st.stk (st.h - 1)) → thC (st.stk (st.h - 1)) j = prT tv ngv scv Cv N9 (max kd scv) j := hlc
  refine lv_aload_n hx hb dMr_printTop_12 rfl (lv_at hl 0 rfl) ?_
  refine cvT_i (we := wMr dA b tr hg wk at_ en cm rg st0 en0 lg tR ngR scR lnR uR lu ru su qu pl rv si D CR FR LF RF SF QF P (wVx dA a1 tv ngv scv lnv uv Cv Fv [])) (tl := tV1 dA b vs tp (si (hg - 1))) (va_runV (C := "MacroReckoner$Value") (As := []) (rest := []) ⟨hx, hb, hml, hown, hts⟩ (cVa_printLength l dC dI dA dS a1 (a1 + 1) (a1 + 3) tv ngv scv Cv lnv (a1 + 2) Fv uv N9 (by exact hV9) (by exact hW9) H.size) (cwV 0 hts (gdV wt3_209 wt3_210 wt3_211 wt1_4 wt3_212) rfl rfl rfl ⟨rfl, by decide, by decide, by decide +kernel⟩ ⟨by decide, by decide⟩) (preV (q := ("MacroReckoner$Value", TVa, 6)) hK hP hD hS hA (XC_ok dS) hX [22, 25, 23, 24] rfl rfl 0 rfl rfl) rfl rfl hl.1 rfl (lv_room (Nat.le_of_ble_eq_true rfl)) dMr_printTop_13 ⟨Nat.zero_le _, Nat.zero_le _⟩) hP hD hS hA [22, 25, 23, 24] [0, 1, 2, 3, 4, 5, 6, 7, 8, 9, 10, 11, 12, 13, 14, 15, 16, 17, 18, 19, 20, 21] rfl (fun v_ => wMr dA b tr hg wk at_ en cm rg st0 en0 lg tR ngR scR lnR uR lu ru su qu pl rv si D CR FR LF RF SF QF P (wVx dA a1 tv ngv scv lnv uv Cv Fv [])) (fun _ => rfl) (wMr dA b tr hg wk at_ en cm rg st0 en0 lg tR ngR scR lnR uR lu ru su qu pl rv si D CR FR LF RF SF QF P []) rfl (fun _ => rfl) [b, b + 1, b + 2, b + 3, b + 4, b + 5, b + 6, b + 7, b + 8, b + 9, b + 10, b + 11, b + 12, b + 13, b + 14, b + 15, b + 16, b + 17, b + 18, b + 19, b + 20, b + 21, a1, a1 + 1, a1 + 2, a1 + 3] rfl (fun _ => rfl) (fun _ => rfl) (fun r13 u_ H locs hq13 hP hD hS => ?_)
  have hP : va_P (dC, dI) vwCl (wMr dA b tr hg wk at_ en cm rg st0 en0 lg tR ngR scR lnR uR lu ru su qu pl rv si D CR FR LF RF SF QF P (wVx dA a1 tv ngv scv lnv uv Cv Fv (tV1 dA b vs tp (si (hg - 1))))) H := hP
  have hD : va_D A (wMr dA b tr hg wk at_ en cm rg st0 en0 lg tR ngR scR lnR uR lu ru su qu pl rv si D CR FR LF RF SF QF P (wVx dA a1 tv ngv scv lnv uv Cv Fv (tV1 dA b vs tp (si (hg - 1))))) := hD
  have hq13 : (tv = 1 ∧ r13 = lnv) ∨ (tv = 0 ∧ N9 = 0 ∧ r13 = 1) ∨ (tv = 0 ∧ N9 ≠ 0 ∧ ∃ k, DL N9 k ∧ k ≤ 60 ∧ r13 = max k scv + (if 0 < scv then 1 else 0) + ngv) := hq13
  have hr13 : r13 = thW (st.stk (st.h - 1)) := pln_e hkd hpt hlw hq13
  clear hq13
  clear hq13
  refine lv_iconst (v := iI 1) hx hb dMr_printTop_16 rfl ?_
  refine iv_iadd hx hb dMr_printTop_17 ?_
  refine lv_aload_n hx hb dMr_printTop_18 rfl (lv_at hl 1 rfl) ?_
  refine va_get (D := (dC, dI)) (ci := 6) (v := .ref (b + 20)) (C := "MacroReckoner") (T := TMr) (N := 11) hx hb hts inMr hown hK hP 0 rfl rfl 10 (by decide) (hts _ wt1_183) (fun _ h9 => h9) rfl dMr_printTop_19 ?_
  refine cvT_i (we := wMr dA b tr hg wk at_ en cm rg st0 en0 lg tR ngR scR lnR uR lu ru su qu pl rv si D CR FR LF RF SF QF P (wVx dA a1 tv ngv scv lnv uv Cv Fv [])) (tl := tV1 dA b vs tp (si (hg - 1))) (va_runV (C := "MacroReckoner$Paper") (As := []) (rest := [.int (iI (r13 + 1))]) ⟨hx, hb, hml, hown, hts⟩ (cPa_room l dC dI dA (b + 20) (b + 21) P pl  H.size) (cwV 0 hts (gdV wt3_214 wt3_215 wt3_216 wt1_7 wt3_217) rfl rfl rfl ⟨rfl, by decide, by decide, by decide +kernel⟩ ⟨by decide, by decide⟩) (preV (q := ("MacroReckoner$Paper", TPa, 2)) hK hP hD hS hA XN_ok trivial [20, 21] rfl rfl 0 rfl rfl) rfl rfl hl.1 rfl (lv_room (Nat.le_of_ble_eq_true rfl)) dMr_printTop_22 ⟨Nat.zero_le _, Nat.zero_le _⟩) hP hD hS hA [20, 21] [0, 1, 2, 3, 4, 5, 6, 7, 8, 9, 10, 11, 12, 13, 14, 15, 16, 17, 18, 19, 22, 23, 24, 25] rfl (fun v_ => wMr dA b tr hg wk at_ en cm rg st0 en0 lg tR ngR scR lnR uR lu ru su qu pl rv si D CR FR LF RF SF QF P (wVx dA a1 tv ngv scv lnv uv Cv Fv [])) (fun _ => rfl) ((b, .inr (6, [.ref (b + 1), .ref (b + 3), .int (iI tr), .ref (b + 4), .ref (b + 5), .int (iI hg), .ref (b + 6), .int (iI wk), .ref (b + 7), .ref (b + 11), .ref (b + 20)])) :: (b + 1, .inr (2, [.ref (b + 2), .int (iI at_), .int (iI en)])) :: (b + 2, .inl (dA 1, 100, .inl (arI D))) :: (b + 3, .inl (dA 5, 8, .inr (.inr (.inr (.inr (arR (tfA b))))))) :: (b + 4, .inr (3, [.int (iI cm), .int (iI rg), rv, .int (iI st0), .int (iI en0), .int (iI lg)])) :: (b + 5, .inl (dA 4, 20, .inr (.inr (.inr (.inr (arR (sfA b si))))))) :: (b + 6, .inl (dA 4, 26, .inr (.inr (.inr (.inr (arR (rfA b))))))) :: (b + 7, .inr (4, [.int (iI tR), .ref (b + 8), .int (iI ngR), .int (iI scR), .ref (b + 10), .int (iI lnR)])) :: (b + 8, .inr (5, [.ref (b + 9), .int (iI uR)])) :: (b + 9, .inl (dA 0, 32, .inl (arI FR))) :: (b + 10, .inl (dA 1, 60, .inl (arI CR))) :: (b + 11, .inr (0, [.ref (b + 7), .ref (b + 12), .ref (b + 14), .ref (b + 16), .ref (b + 18)])) :: (b + 12, .inr (5, [.ref (b + 13), .int (iI lu)])) :: (b + 13, .inl (dA 0, 32, .inl (arI LF))) :: (b + 14, .inr (5, [.ref (b + 15), .int (iI ru)])) :: (b + 15, .inl (dA 0, 32, .inl (arI RF))) :: (b + 16, .inr (5, [.ref (b + 17), .int (iI su)])) :: (b + 17, .inl (dA 0, 32, .inl (arI SF))) :: (b + 18, .inr (5, [.ref (b + 19), .int (iI qu)])) :: (b + 19, .inl (dA 0, 32, .inl (arI QF))) :: (wVx dA a1 tv ngv scv lnv uv Cv Fv [])) rfl (fun _ => rfl) [b, b + 1, b + 2, b + 3, b + 4, b + 5, b + 6, b + 7, b + 8, b + 9, b + 10, b + 11, b + 12, b + 13, b + 14, b + 15, b + 16, b + 17, b + 18, b + 19, b + 20, b + 21, a1, a1 + 1, a1 + 2, a1 + 3] rfl (fun _ => rfl) (fun _ => rfl) (fun r22 u_ H locs hq22 hP hD hS => ?_)
  have hP : va_P (dC, dI) vwCl (wMr dA b tr hg wk at_ en cm rg st0 en0 lg tR ngR scR lnR uR lu ru su qu pl rv si D CR FR LF RF SF QF P (wVx dA a1 tv ngv scv lnv uv Cv Fv (tV1 dA b vs tp (si (hg - 1))))) H := hP
  have hD : va_D A (wMr dA b tr hg wk at_ en cm rg st0 en0 lg tR ngR scR lnR uR lu ru su qu pl rv si D CR FR LF RF SF QF P (wVx dA a1 tv ngv scv lnv uv Cv Fv (tV1 dA b vs tp (si (hg - 1))))) := hD
  have hq22 : r22 = 200 - pl := hq22
  refine iv_icmp_le (tgt := 31) hx hb dMr_printTop_25 (by decide) ⟨by omega, by omega⟩ ⟨by omega, by omega⟩ (fun hc25 => ?_) (fun hc25 => ?_)
  · refine lv_aload_n hx hb dMr_printTop_31 rfl (lv_at hl 1 rfl) ?_
    refine va_get (D := (dC, dI)) (ci := 6) (v := .ref (b + 20)) (C := "MacroReckoner") (T := TMr) (N := 11) hx hb hts inMr hown hK hP 0 rfl rfl 10 (by decide) (hts _ wt1_183) (fun _ h9 => h9) rfl dMr_printTop_32 ?_
    refine lv_aload_n hx hb dMr_printTop_35 rfl (lv_at hl 0 rfl) ?_
    refine cvT_v (we := wMr dA b tr hg wk at_ en cm rg st0 en0 lg tR ngR scR lnR uR lu ru su qu pl rv si D CR FR LF RF SF QF P (wVx dA a1 tv ngv scv lnv uv Cv Fv [])) (tl := tV1 dA b vs tp (si (hg - 1))) (va_runV (C := "MacroReckoner$Paper") (As := [.ref a1]) (rest := []) ⟨hx, hb, hml, hown, hts⟩ (cPa_print l dC dI dA dS (b + 20) (b + 21) P pl a1 (a1 + 1) (a1 + 3) tv ngv scv Cv lnv (a1 + 2) Fv uv N9 kd pt (thW (st.stk (st.h - 1))) (by exact hV9) (by exact hW9) (by exact hkd) (by exact hpt) (by exact hlw) (by omega) H.size) (cwV 1 hts (gdV wt3_218 wt3_219 wt3_220 wt1_7 wt3_221) rfl rfl rfl ⟨rfl, by decide, by decide, by decide +kernel⟩ ⟨by decide, by decide⟩) (preV (q := ("MacroReckoner$Paper", TPa, 2)) hK hP hD hS hA (XC_ok dS) hX [20, 21, 22, 25, 23, 24] rfl rfl 0 rfl rfl) rfl rfl hl.1 rfl (lv_room (Nat.le_of_ble_eq_true rfl)) dMr_printTop_36 ⟨Nat.zero_le _, Nat.zero_le _⟩) hP hD hS hA [20, 21, 22, 25, 23, 24] [0, 1, 2, 3, 4, 5, 6, 7, 8, 9, 10, 11, 12, 13, 14, 15, 16, 17, 18, 19] rfl (fun v_ => wMr dA b tr hg wk at_ en cm rg st0 en0 lg tR ngR scR lnR uR lu ru su qu ((pl + (thW (st.stk (st.h - 1))))) rv si D CR FR LF RF SF QF v_ (wVx dA a1 tv ngv scv lnv uv Cv Fv [])) (fun _ => rfl) ((b, .inr (6, [.ref (b + 1), .ref (b + 3), .int (iI tr), .ref (b + 4), .ref (b + 5), .int (iI hg), .ref (b + 6), .int (iI wk), .ref (b + 7), .ref (b + 11), .ref (b + 20)])) :: (b + 1, .inr (2, [.ref (b + 2), .int (iI at_), .int (iI en)])) :: (b + 2, .inl (dA 1, 100, .inl (arI D))) :: (b + 3, .inl (dA 5, 8, .inr (.inr (.inr (.inr (arR (tfA b))))))) :: (b + 4, .inr (3, [.int (iI cm), .int (iI rg), rv, .int (iI st0), .int (iI en0), .int (iI lg)])) :: (b + 5, .inl (dA 4, 20, .inr (.inr (.inr (.inr (arR (sfA b si))))))) :: (b + 6, .inl (dA 4, 26, .inr (.inr (.inr (.inr (arR (rfA b))))))) :: (b + 7, .inr (4, [.int (iI tR), .ref (b + 8), .int (iI ngR), .int (iI scR), .ref (b + 10), .int (iI lnR)])) :: (b + 8, .inr (5, [.ref (b + 9), .int (iI uR)])) :: (b + 9, .inl (dA 0, 32, .inl (arI FR))) :: (b + 10, .inl (dA 1, 60, .inl (arI CR))) :: (b + 11, .inr (0, [.ref (b + 7), .ref (b + 12), .ref (b + 14), .ref (b + 16), .ref (b + 18)])) :: (b + 12, .inr (5, [.ref (b + 13), .int (iI lu)])) :: (b + 13, .inl (dA 0, 32, .inl (arI LF))) :: (b + 14, .inr (5, [.ref (b + 15), .int (iI ru)])) :: (b + 15, .inl (dA 0, 32, .inl (arI RF))) :: (b + 16, .inr (5, [.ref (b + 17), .int (iI su)])) :: (b + 17, .inl (dA 0, 32, .inl (arI SF))) :: (b + 18, .inr (5, [.ref (b + 19), .int (iI qu)])) :: (b + 19, .inl (dA 0, 32, .inl (arI QF))) :: []) rfl (fun _ => rfl) [b, b + 1, b + 2, b + 3, b + 4, b + 5, b + 6, b + 7, b + 8, b + 9, b + 10, b + 11, b + 12, b + 13, b + 14, b + 15, b + 16, b + 17, b + 18, b + 19, b + 20, b + 21, a1, a1 + 1, a1 + 2, a1 + 3] rfl (fun _ => rfl) (fun _ => rfl) (fun u_ H locs hq36 hP hD hS => ?_)
    obtain ⟨P1_36, rfl⟩ : ∃ z, z = u_ := ⟨_, rfl⟩
    have hP : va_P (dC, dI) vwCl (wMr dA b tr hg wk at_ en cm rg st0 en0 lg tR ngR scR lnR uR lu ru su qu ((pl + (thW (st.stk (st.h - 1))))) rv si D CR FR LF RF SF QF P1_36 (wVx dA a1 tv ngv scv lnv uv Cv Fv (tV1 dA b vs tp (si (hg - 1))))) H := hP
    have hD : va_D A (wMr dA b tr hg wk at_ en cm rg st0 en0 lg tR ngR scR lnR uR lu ru su qu ((pl + (thW (st.stk (st.h - 1))))) rv si D CR FR LF RF SF QF P1_36 (wVx dA a1 tv ngv scv lnv uv Cv Fv (tV1 dA b vs tp (si (hg - 1))))) := hD
    have hq36 : (∀ j, j < pl → P1_36 j = P j) ∧ ∀ j, 0 ≤ j → j < (thW (st.stk (st.h - 1))) → P1_36 (pl + j) = prT tv ngv scv Cv N9 (max kd scv) j := hq36
    refine lv_aload_n hx hb dMr_printTop_39 rfl (lv_at hl 1 rfl) ?_
    refine va_get (D := (dC, dI)) (ci := 6) (v := .ref (b + 20)) (C := "MacroReckoner") (T := TMr) (N := 11) hx hb hts inMr hown hK hP 0 rfl rfl 10 (by decide) (hts _ wt1_183) (fun _ h9 => h9) rfl dMr_printTop_40 ?_
    refine lv_bipush (v := iI 10) hx hb dMr_printTop_43 (by decide) ?_
    refine cvT_v (we := wMr dA b tr hg wk at_ en cm rg st0 en0 lg tR ngR scR lnR uR lu ru su qu ((pl + (thW (st.stk (st.h - 1))))) rv si D CR FR LF RF SF QF P1_36 (wVx dA a1 tv ngv scv lnv uv Cv Fv [])) (tl := tV1 dA b vs tp (si (hg - 1))) (va_runV (C := "MacroReckoner$Paper") (As := [.int (iI 10)]) (rest := []) ⟨hx, hb, hml, hown, hts⟩ (cPa_put l dC dI dA (b + 20) (b + 21) P1_36 (((pl + (thW (st.stk (st.h - 1)))))) 10 (by omega) (by omega) H.size) (cwV 1 hts (gdV wt3_237 wt3_223 wt3_224 wt1_7 wt3_225) rfl rfl rfl ⟨rfl, by decide, by decide, by decide +kernel⟩ ⟨by decide, by decide⟩) (preV (q := ("MacroReckoner$Paper", TPa, 2)) hK hP hD hS hA XN_ok trivial [20, 21] rfl rfl 0 rfl rfl) rfl rfl hl.1 rfl (lv_room (Nat.le_of_ble_eq_true rfl)) dMr_printTop_45 ⟨Nat.zero_le _, Nat.zero_le _⟩) hP hD hS hA [20, 21] [0, 1, 2, 3, 4, 5, 6, 7, 8, 9, 10, 11, 12, 13, 14, 15, 16, 17, 18, 19, 22, 23, 24, 25] rfl (fun v_ => wMr dA b tr hg wk at_ en cm rg st0 en0 lg tR ngR scR lnR uR lu ru su qu (((((pl + (thW (st.stk (st.h - 1)))))) + 1)) rv si D CR FR LF RF SF QF ((up P1_36 (((pl + (thW (st.stk (st.h - 1)))))) 10)) (wVx dA a1 tv ngv scv lnv uv Cv Fv [])) (fun _ => rfl) ((b, .inr (6, [.ref (b + 1), .ref (b + 3), .int (iI tr), .ref (b + 4), .ref (b + 5), .int (iI hg), .ref (b + 6), .int (iI wk), .ref (b + 7), .ref (b + 11), .ref (b + 20)])) :: (b + 1, .inr (2, [.ref (b + 2), .int (iI at_), .int (iI en)])) :: (b + 2, .inl (dA 1, 100, .inl (arI D))) :: (b + 3, .inl (dA 5, 8, .inr (.inr (.inr (.inr (arR (tfA b))))))) :: (b + 4, .inr (3, [.int (iI cm), .int (iI rg), rv, .int (iI st0), .int (iI en0), .int (iI lg)])) :: (b + 5, .inl (dA 4, 20, .inr (.inr (.inr (.inr (arR (sfA b si))))))) :: (b + 6, .inl (dA 4, 26, .inr (.inr (.inr (.inr (arR (rfA b))))))) :: (b + 7, .inr (4, [.int (iI tR), .ref (b + 8), .int (iI ngR), .int (iI scR), .ref (b + 10), .int (iI lnR)])) :: (b + 8, .inr (5, [.ref (b + 9), .int (iI uR)])) :: (b + 9, .inl (dA 0, 32, .inl (arI FR))) :: (b + 10, .inl (dA 1, 60, .inl (arI CR))) :: (b + 11, .inr (0, [.ref (b + 7), .ref (b + 12), .ref (b + 14), .ref (b + 16), .ref (b + 18)])) :: (b + 12, .inr (5, [.ref (b + 13), .int (iI lu)])) :: (b + 13, .inl (dA 0, 32, .inl (arI LF))) :: (b + 14, .inr (5, [.ref (b + 15), .int (iI ru)])) :: (b + 15, .inl (dA 0, 32, .inl (arI RF))) :: (b + 16, .inr (5, [.ref (b + 17), .int (iI su)])) :: (b + 17, .inl (dA 0, 32, .inl (arI SF))) :: (b + 18, .inr (5, [.ref (b + 19), .int (iI qu)])) :: (b + 19, .inl (dA 0, 32, .inl (arI QF))) :: (wVx dA a1 tv ngv scv lnv uv Cv Fv [])) rfl (fun _ => rfl) [b, b + 1, b + 2, b + 3, b + 4, b + 5, b + 6, b + 7, b + 8, b + 9, b + 10, b + 11, b + 12, b + 13, b + 14, b + 15, b + 16, b + 17, b + 18, b + 19, b + 20, b + 21, a1, a1 + 1, a1 + 2, a1 + 3] rfl (fun _ => rfl) (fun _ => rfl) (fun u_ H locs hq45 hP hD hS => ?_)
    have hP : va_P (dC, dI) vwCl (wMr dA b tr hg wk at_ en cm rg st0 en0 lg tR ngR scR lnR uR lu ru su qu (((((pl + (thW (st.stk (st.h - 1)))))) + 1)) rv si D CR FR LF RF SF QF ((up P1_36 (((pl + (thW (st.stk (st.h - 1)))))) 10)) (wVx dA a1 tv ngv scv lnv uv Cv Fv (tV1 dA b vs tp (si (hg - 1))))) H := hP
    have hD : va_D A (wMr dA b tr hg wk at_ en cm rg st0 en0 lg tR ngR scR lnR uR lu ru su qu (((((pl + (thW (st.stk (st.h - 1)))))) + 1)) rv si D CR FR LF RF SF QF ((up P1_36 (((pl + (thW (st.stk (st.h - 1)))))) 10)) (wVx dA a1 tv ngv scv lnv uv Cv Fv (tV1 dA b vs tp (si (hg - 1))))) := hD
    have hq45 : True := hq45
    rw [e_a1] at hP hD
    have hP := va_P_pm (wMr_p (uV1 (dA := dA) (b := b) (vs := vs) (tp := tp) (k := si (hg - 1)) (v := (tv, ngv, scv, lnv, uv, Cv, Fv)) (by omega))) hP
    have hD := va_D_pm (wMr_p (uV1 (dA := dA) (b := b) (vs := vs) (tp := tp) (k := si (hg - 1)) (v := (tv, ngv, scv, lnv, uv, Cv, Fv)) (by omega))) hD
    rw [upF_id e_vv] at hP hD
    have hP : va_P (dC, dI) vwCl (wMr dA b tr hg wk at_ en cm rg st0 en0 lg tR ngR scR lnR uR lu ru su qu (((((pl + (thW (st.stk (st.h - 1)))))) + 1)) rv si D CR FR LF RF SF QF ((up P1_36 (((pl + (thW (st.stk (st.h - 1)))))) 10)) (tl0 dA b vs tp)) H := hP
    have hD : va_D A (wMr dA b tr hg wk at_ en cm rg st0 en0 lg tR ngR scR lnR uR lu ru su qu (((((pl + (thW (st.stk (st.h - 1)))))) + 1)) rv si D CR FR LF RF SF QF ((up P1_36 (((pl + (thW (st.stk (st.h - 1)))))) 10)) (tl0 dA b vs tp)) := hD
    refine lv_iconst (v := iI 0) hx hb dMr_printTop_48 rfl ?_
    exact rt_i hx hb hr hlocks hK hS dMr_printTop_49 ((up P1_36 (((pl + (thW (st.stk (st.h - 1)))))) 10), ((((pl + (thW (st.stk (st.h - 1)))))) + 1)) hP hD (show 0 = (p1A st).1 ∧ MG ((up P1_36 (((pl + (thW (st.stk (st.h - 1)))))) 10)) (((((pl + (thW (st.stk (st.h - 1)))))) + 1)) (p1A st).2 from by rw [(p1_x hr13).2 (by omega)]; exact ⟨rfl, MG_1 hMG rfl (by omega) hq36.1 (fun j x y => by rw [hlc j x y]; exact hq36.2 j x y) hlb⟩)
  · rw [e_a1] at hP hD
    have hP := va_P_pm (wMr_p (uV1 (dA := dA) (b := b) (vs := vs) (tp := tp) (k := si (hg - 1)) (v := (tv, ngv, scv, lnv, uv, Cv, Fv)) (by omega))) hP
    have hD := va_D_pm (wMr_p (uV1 (dA := dA) (b := b) (vs := vs) (tp := tp) (k := si (hg - 1)) (v := (tv, ngv, scv, lnv, uv, Cv, Fv)) (by omega))) hD
    rw [upF_id e_vv] at hP hD
    have hP : va_P (dC, dI) vwCl (wMr dA b tr hg wk at_ en cm rg st0 en0 lg tR ngR scR lnR uR lu ru su qu pl rv si D CR FR LF RF SF QF P (tl0 dA b vs tp)) H := hP
    have hD : va_D A (wMr dA b tr hg wk at_ en cm rg st0 en0 lg tR ngR scR lnR uR lu ru su qu pl rv si D CR FR LF RF SF QF P (tl0 dA b vs tp)) := hD
    refine lv_bipush (v := iI (-10)) hx hb dMr_printTop_28 (by decide) ?_
    exact rt_i hx hb hr hlocks hK hS dMr_printTop_30 (P, pl) hP hD (show (-10) = (p1A st).1 ∧ MG P pl (p1A st).2 from by rw [(p1_x hr13).1 (by omega)]; exact ⟨rfl, hMG⟩)

theorem dMr_printAndTake_0 : decode prog_1_method_29_code 0 = .ok (.aload_n 0, 1) := by decide +kernel
theorem dMr_printAndTake_1 : decode prog_1_method_29_code 1 = .ok (.getfield 35, 3) := by decide +kernel
theorem dMr_printAndTake_4 : decode prog_1_method_29_code 4 = .ok (.aload_n 0, 1) := by decide +kernel
theorem dMr_printAndTake_5 : decode prog_1_method_29_code 5 = .ok (.getfield 39, 3) := by decide +kernel
theorem dMr_printAndTake_8 : decode prog_1_method_29_code 8 = .ok (.iconst 1, 1) := by decide +kernel
theorem dMr_printAndTake_9 : decode prog_1_method_29_code 9 = .ok (.isub, 1) := by decide +kernel
theorem dMr_printAndTake_10 : decode prog_1_method_29_code 10 = .ok (.aaload, 1) := by decide +kernel
theorem dMr_printAndTake_11 : decode prog_1_method_29_code 11 = .ok (.astore_n 1, 1) := by decide +kernel
theorem dMr_printAndTake_12 : decode prog_1_method_29_code 12 = .ok (.aload_n 1, 1) := by decide +kernel
theorem dMr_printAndTake_13 : decode prog_1_method_29_code 13 = .ok (.invokevirtual 265, 3) := by decide +kernel
theorem dMr_printAndTake_16 : decode prog_1_method_29_code 16 = .ok (.aload_n 0, 1) := by decide +kernel
theorem dMr_printAndTake_17 : decode prog_1_method_29_code 17 = .ok (.getfield 65, 3) := by decide +kernel
theorem dMr_printAndTake_20 : decode prog_1_method_29_code 20 = .ok (.invokevirtual 268, 3) := by decide +kernel
theorem dMr_printAndTake_23 : decode prog_1_method_29_code 23 = .ok (.if_icmp .le 6, 3) := by decide +kernel
theorem dMr_printAndTake_26 : decode prog_1_method_29_code 26 = .ok (.bipush (-10), 2) := by decide +kernel
theorem dMr_printAndTake_28 : decode prog_1_method_29_code 28 = .ok (.ireturn, 1) := by decide +kernel
theorem dMr_printAndTake_29 : decode prog_1_method_29_code 29 = .ok (.aload_n 0, 1) := by decide +kernel
theorem dMr_printAndTake_30 : decode prog_1_method_29_code 30 = .ok (.getfield 65, 3) := by decide +kernel
theorem dMr_printAndTake_33 : decode prog_1_method_29_code 33 = .ok (.aload_n 1, 1) := by decide +kernel
theorem dMr_printAndTake_34 : decode prog_1_method_29_code 34 = .ok (.invokevirtual 271, 3) := by decide +kernel
theorem dMr_printAndTake_37 : decode prog_1_method_29_code 37 = .ok (.aload_n 0, 1) := by decide +kernel
theorem dMr_printAndTake_38 : decode prog_1_method_29_code 38 = .ok (.dup, 1) := by decide +kernel
theorem dMr_printAndTake_39 : decode prog_1_method_29_code 39 = .ok (.getfield 39, 3) := by decide +kernel
theorem dMr_printAndTake_42 : decode prog_1_method_29_code 42 = .ok (.iconst 1, 1) := by decide +kernel
theorem dMr_printAndTake_43 : decode prog_1_method_29_code 43 = .ok (.isub, 1) := by decide +kernel
theorem dMr_printAndTake_44 : decode prog_1_method_29_code 44 = .ok (.putfield 39, 3) := by decide +kernel
theorem dMr_printAndTake_47 : decode prog_1_method_29_code 47 = .ok (.iconst 0, 1) := by decide +kernel
theorem dMr_printAndTake_48 : decode prog_1_method_29_code 48 = .ok (.ireturn, 1) := by decide +kernel
abbrev qMr_printAndTake (dC : Nat → ClassId) (dI : Nat → Nat → Nat) (dA : Nat → ClassId) (dS : Nat → Nat) (b : Nat) (tr : Int) (hg : Int) (wk : Int) (at_ : Int) (en : Int) (cm : Int) (rg : Int) (st0 : Int) (en0 : Int) (lg : Int) (tR : Int) (ngR : Int) (scR : Int) (lnR : Int) (uR : Int) (lu : Int) (ru : Int) (su : Int) (qu : Int) (pl : Int) (rv : Value) (si : Int → Nat) (D : Int → Int) (CR : Int → Int) (FR : Int → Int) (LF : Int → Int) (RF : Int → Int) (SF : Int → Int) (QF : Int → Int) (P : Int → Int) (vs : Nat → VS) (tp : Nat → TS) (st : AS) (A : Nat → Prop) : Array Value → State → Outcome → State → Prop := QI (dC, dI) vwCl (tyA dA) (fun (r : Int) (v_ : (Int → Int) × Int × Int) => r = (pnA st).1 ∧ v_.2.2 = (pnA st).2.h ∧ MG v_.1 v_.2.1 (pnA st).2) (fun (v_ : (Int → Int) × Int × Int) => wMr dA b tr v_.2.2 wk at_ en cm rg st0 en0 lg tR ngR scR lnR uR lu ru su qu v_.2.1 rv si D CR FR LF RF SF QF v_.1 (tl0 dA b vs tp)) A
abbrev rmMr_printAndTake : Room := { frames := 3, cells := 0, slots := 0, locals := 67 }
set_option maxRecDepth 100000 in
set_option maxHeartbeats 1000000 in
theorem cMr_printAndTake (l : Launch) (dC : Nat → ClassId) (dI : Nat → Nat → Nat) (dA : Nat → ClassId) (dS : Nat → Nat) (b : Nat) (tr : Int) (hg : Int) (wk : Int) (at_ : Int) (en : Int) (cm : Int) (rg : Int) (st0 : Int) (en0 : Int) (lg : Int) (tR : Int) (ngR : Int) (scR : Int) (lnR : Int) (uR : Int) (lu : Int) (ru : Int) (su : Int) (qu : Int) (pl : Int) (rv : Value) (si : Int → Nat) (D : Int → Int) (CR : Int → Int) (FR : Int → Int) (LF : Int → Int) (RF : Int → Int) (SF : Int → Int) (QF : Int → Int) (P : Int → Int) (vs : Nat → VS) (tp : Nat → TS) (st : AS) (hCH : CH si vs hg wk st) (hg1_ : 1 ≤ hg) (hMG : MG P pl st) (sz : Nat) : Met l yMr_printAndTake wsMr_printAndTake rmMr_printAndTake (PC (dC, dI) vwCl (tyA dA) (XC dS) [.ref b] (wMr dA b tr hg wk at_ en cm rg st0 en0 lg tR ngR scR lnR uR lu ru su qu pl rv si D CR FR LF RF SF QF P (tl0 dA b vs tp)) sz) (qMr_printAndTake dC dI dA dS b tr hg wk at_ en cm rg st0 en0 lg tR ngR scR lnR uR lu ru su qu pl rv si D CR FR LF RF SF QF P vs tp st (va_A (wMr dA b tr hg wk at_ en cm rg st0 en0 lg tR ngR scR lnR uR lu ru su qu pl rv si D CR FR LF RF SF QF P (tl0 dA b vs tp)) sz)) 0 0 (va_A (wMr dA b tr hg wk at_ en cm rg st0 en0 lg tR ngR scR lnR uR lu ru su qu pl rv si D CR FR LF RF SF QF P (tl0 dA b vs tp)) sz) := by
  refine met_of (cc := prog_1_method_29_code) (maxL := 2) (ret := (some .int)) (Qc := qMr_printAndTake dC dI dA dS b tr hg wk at_ en cm rg st0 en0 lg tR ngR scR lnR uR lu ru su qu pl rv si D CR FR LF RF SF QF P vs tp st) (XC_ok dS) (by decide) rfl (Nat.le_of_ble_eq_true rfl) ?_
  intro p e s m below meth c ls A hx hb hr hml hown hts hlocks hnm hK hP hD hA hX hS hl
  have hl : lv_has ls 2 [(0, .ref b)] := hl
  have hown : s.vm.findClass "MacroReckoner" = some m.cls := hown
  obtain ⟨H, hH⟩ : ∃ H : Heap, H = s.heap := ⟨_, rfl⟩
  obtain ⟨locs, hlo⟩ : ∃ L : List Loc, L = [] := ⟨_, rfl⟩
  have hP : va_P (dC, dI) vwCl (wMr dA b tr hg wk at_ en cm rg st0 en0 lg tR ngR scR lnR uR lu ru su qu pl rv si D CR FR LF RF SF QF P (tl0 dA b vs tp)) H := hH ▸ hP
  have hS : va_S A s.heap H locs := by rw [hH, hlo]; exact hS
  suffices hgo : W p l e rmMr_printAndTake s m [.ref b].toArray below meth c H locs 0 0 (MQ below (qMr_printAndTake dC dI dA dS b tr hg wk at_ en cm rg st0 en0 lg tR ngR scR lnR uR lu ru su qu pl rv si D CR FR LF RF SF QF P vs tp st A) [.ref b].toArray s 0 0 A) (F0 m 0 ls []) by rw [hH, hlo] at hgo; exact hgo
  clear hH hlo
  have hh := hCH.1
  have hs9 := hCH.2.2.1 (hg - 1) (by omega) (by omega)
  have hCV := hCH.2.2.2.2.2 (hg - 1) (by omega) (by omega)
  rw [show st.stk (hg - 1) = st.stk (st.h - 1) by rw [hh.1]] at hCV
  have hg9 := hMG.1
  refine lv_aload_n hx hb dMr_printAndTake_0 rfl (lv_at hl 0 rfl) ?_
  refine va_get (D := (dC, dI)) (ci := 6) (v := .ref (b + 5)) (C := "MacroReckoner") (T := TMr) (N := 11) hx hb hts inMr hown hK hP 0 rfl rfl 4 (by decide) (hts _ wt1_177) (fun _ h9 => h9) rfl dMr_printAndTake_1 ?_
  refine lv_aload_n hx hb dMr_printAndTake_4 rfl (lv_at hl 0 rfl) ?_
  refine va_get (D := (dC, dI)) (ci := 6) (v := .int (iI hg)) (C := "MacroReckoner") (T := TMr) (N := 11) hx hb hts inMr hown hK hP 0 rfl rfl 5 (by decide) (hts _ wt1_178) (fun _ h9 => h9) rfl dMr_printAndTake_5 ?_
  refine lv_iconst (v := iI 1) hx hb dMr_printAndTake_8 rfl ?_
  refine iv_isub hx hb dMr_printAndTake_9 ?_
  refine iv_aald hx hb hK hP 5 4 rfl rfl (by decide) dMr_printAndTake_10 (by omega) (by omega) ?_
  refine W.eq (g2 := F0 m 11 ls [.ref (b + 38 + 4 * si (hg - 1))]) rfl ?_
  obtain ⟨a1, e_a1⟩ : ∃ z : Nat, z = b + 38 + 4 * si (hg - 1) := ⟨_, rfl⟩
  rw [← e_a1]
  refine lv_astore_n (lv' := [(1, .ref a1), (0, .ref b)]) hx hb dMr_printAndTake_11 rfl hl (by decide) rfl (fun ls hl => ?_)
  obtain ⟨⟨tv, ngv, scv, lnv, uv, Cv, Fv⟩, e_vv⟩ : ∃ z : VS, z = vs (si (hg - 1)) := ⟨_, rfl⟩
  have hP := va_P_pm (wMr_p (fV1 (dA := dA) (b := b) (vs := vs) (tp := tp) (k := si (hg - 1)) (by omega))) hP
  have hD := va_D_pm (wMr_p (fV1 (dA := dA) (b := b) (vs := vs) (tp := tp) (k := si (hg - 1)) (by omega))) hD
  rw [← e_vv, ← e_a1] at hP hD
  have hP : va_P (dC, dI) vwCl (wMr dA b tr hg wk at_ en cm rg st0 en0 lg tR ngR scR lnR uR lu ru su qu pl rv si D CR FR LF RF SF QF P (wVx dA a1 tv ngv scv lnv uv Cv Fv (tV1 dA b vs tp (si (hg - 1))))) H := hP
  have hD : va_D A (wMr dA b tr hg wk at_ en cm rg st0 en0 lg tR ngR scR lnR uR lu ru su qu pl rv si D CR FR LF RF SF QF P (wVx dA a1 tv ngv scv lnv uv Cv Fv (tV1 dA b vs tp (si (hg - 1))))) := hD
  rw [← e_vv] at hCV
  obtain ⟨N9, hV9, hW9, ha1, ha2, ha3, ha4, ha5⟩ := hCV
  obtain ⟨kd, pt, hkd, hpt, hlw, hlc, hlb⟩ := cv_pr (a := (st.stk (st.h - 1))) hV9 hW9 ha1 ha2 ha3 ha4 ha5
  have hV9 : VV tv ngv scv lnv Cv N9 := hV9
  have hW9 : WR Fv uv N9 := hW9
  have hpt : (0 < scv ∧ pt = 1) ∨ (scv = 0 ∧ pt = 0) := hpt
  have hlw : (tv = 1 ∧ thW (st.stk (st.h - 1)) = lnv) ∨ (tv = 0 ∧ N9 = 0 ∧ thW (st.stk (st.h - 1)) = 1) ∨ (tv = 0 ∧ N9 ≠ 0 ∧ thW (st.stk (st.h - 1)) = ngv + max kd scv + pt) := hlw
  have hlc : ∀ j, 0 ≤ j → j < thW (st.stk (st.h - 1)) → thC (st.stk (st.h - 1)) j = prT tv ngv scv Cv N9 (max kd scv) j := hlc
  refine lv_aload_n hx hb dMr_printAndTake_12 rfl (lv_at hl 0 rfl) ?_
  refine cvT_i (we := wMr dA b tr hg wk at_ en cm rg st0 en0 lg tR ngR scR lnR uR lu ru su qu pl rv si D CR FR LF RF SF QF P (wVx dA a1 tv ngv scv lnv uv Cv Fv [])) (tl := tV1 dA b vs tp (si (hg - 1))) (va_runV (C := "MacroReckoner$Value") (As := []) (rest := []) ⟨hx, hb, hml, hown, hts⟩ (cVa_printLength l dC dI dA dS a1 (a1 + 1) (a1 + 3) tv ngv scv Cv lnv (a1 + 2) Fv uv N9 (by exact hV9) (by exact hW9) H.size) (cwV 0 hts (gdV wt3_209 wt3_210 wt3_211 wt1_4 wt3_212) rfl rfl rfl ⟨rfl, by decide, by decide, by decide +kernel⟩ ⟨by decide, by decide⟩) (preV (q := ("MacroReckoner$Value", TVa, 6)) hK hP hD hS hA (XC_ok dS) hX [22, 25, 23, 24] rfl rfl 0 rfl rfl) rfl rfl hl.1 rfl (lv_room (Nat.le_of_ble_eq_true rfl)) dMr_printAndTake_13 ⟨Nat.zero_le _, Nat.zero_le _⟩) hP hD hS hA [22, 25, 23, 24] [0, 1, 2, 3, 4, 5, 6, 7, 8, 9, 10, 11, 12, 13, 14, 15, 16, 17, 18, 19, 20, 21] rfl (fun v_ => wMr dA b tr hg wk at_ en cm rg st0 en0 lg tR ngR scR lnR uR lu ru su qu pl rv si D CR FR LF RF SF QF P (wVx dA a1 tv ngv scv lnv uv Cv Fv [])) (fun _ => rfl) (wMr dA b tr hg wk at_ en cm rg st0 en0 lg tR ngR scR lnR uR lu ru su qu pl rv si D CR FR LF RF SF QF P []) rfl (fun _ => rfl) [b, b + 1, b + 2, b + 3, b + 4, b + 5, b + 6, b + 7, b + 8, b + 9, b + 10, b + 11, b + 12, b + 13, b + 14, b + 15, b + 16, b + 17, b + 18, b + 19, b + 20, b + 21, a1, a1 + 1, a1 + 2, a1 + 3] rfl (fun _ => rfl) (fun _ => rfl) (fun r13 u_ H locs hq13 hP hD hS => ?_)
  have hP : va_P (dC, dI) vwCl (wMr dA b tr hg wk at_ en cm rg st0 en0 lg tR ngR scR lnR uR lu ru su qu pl rv si D CR FR LF RF SF QF P (wVx dA a1 tv ngv scv lnv uv Cv Fv (tV1 dA b vs tp (si (hg - 1))))) H := hP
  have hD : va_D A (wMr dA b tr hg wk at_ en cm rg st0 en0 lg tR ngR scR lnR uR lu ru su qu pl rv si D CR FR LF RF SF QF P (wVx dA a1 tv ngv scv lnv uv Cv Fv (tV1 dA b vs tp (si (hg - 1))))) := hD
  have hq13 : (tv = 1 ∧ r13 = lnv) ∨ (tv = 0 ∧ N9 = 0 ∧ r13 = 1) ∨ (tv = 0 ∧ N9 ≠ 0 ∧ ∃ k, DL N9 k ∧ k ≤ 60 ∧ r13 = max k scv + (if 0 < scv then 1 else 0) + ngv) := hq13
  have hr13 : r13 = thW (st.stk (st.h - 1)) := pln_e hkd hpt hlw hq13
  clear hq13
  clear hq13
  refine lv_aload_n hx hb dMr_printAndTake_16 rfl (lv_at hl 1 rfl) ?_
  refine va_get (D := (dC, dI)) (ci := 6) (v := .ref (b + 20)) (C := "MacroReckoner") (T := TMr) (N := 11) hx hb hts inMr hown hK hP 0 rfl rfl 10 (by decide) (hts _ wt1_183) (fun _ h9 => h9) rfl dMr_printAndTake_17 ?_
  refine cvT_i (we := wMr dA b tr hg wk at_ en cm rg st0 en0 lg tR ngR scR lnR uR lu ru su qu pl rv si D CR FR LF RF SF QF P (wVx dA a1 tv ngv scv lnv uv Cv Fv [])) (tl := tV1 dA b vs tp (si (hg - 1))) (va_runV (C := "MacroReckoner$Paper") (As := []) (rest := [.int (iI r13)]) ⟨hx, hb, hml, hown, hts⟩ (cPa_room l dC dI dA (b + 20) (b + 21) P pl  H.size) (cwV 0 hts (gdV wt3_214 wt3_215 wt3_216 wt1_7 wt3_217) rfl rfl rfl ⟨rfl, by decide, by decide, by decide +kernel⟩ ⟨by decide, by decide⟩) (preV (q := ("MacroReckoner$Paper", TPa, 2)) hK hP hD hS hA XN_ok trivial [20, 21] rfl rfl 0 rfl rfl) rfl rfl hl.1 rfl (lv_room (Nat.le_of_ble_eq_true rfl)) dMr_printAndTake_20 ⟨Nat.zero_le _, Nat.zero_le _⟩) hP hD hS hA [20, 21] [0, 1, 2, 3, 4, 5, 6, 7, 8, 9, 10, 11, 12, 13, 14, 15, 16, 17, 18, 19, 22, 23, 24, 25] rfl (fun v_ => wMr dA b tr hg wk at_ en cm rg st0 en0 lg tR ngR scR lnR uR lu ru su qu pl rv si D CR FR LF RF SF QF P (wVx dA a1 tv ngv scv lnv uv Cv Fv [])) (fun _ => rfl) ((b, .inr (6, [.ref (b + 1), .ref (b + 3), .int (iI tr), .ref (b + 4), .ref (b + 5), .int (iI hg), .ref (b + 6), .int (iI wk), .ref (b + 7), .ref (b + 11), .ref (b + 20)])) :: (b + 1, .inr (2, [.ref (b + 2), .int (iI at_), .int (iI en)])) :: (b + 2, .inl (dA 1, 100, .inl (arI D))) :: (b + 3, .inl (dA 5, 8, .inr (.inr (.inr (.inr (arR (tfA b))))))) :: (b + 4, .inr (3, [.int (iI cm), .int (iI rg), rv, .int (iI st0), .int (iI en0), .int (iI lg)])) :: (b + 5, .inl (dA 4, 20, .inr (.inr (.inr (.inr (arR (sfA b si))))))) :: (b + 6, .inl (dA 4, 26, .inr (.inr (.inr (.inr (arR (rfA b))))))) :: (b + 7, .inr (4, [.int (iI tR), .ref (b + 8), .int (iI ngR), .int (iI scR), .ref (b + 10), .int (iI lnR)])) :: (b + 8, .inr (5, [.ref (b + 9), .int (iI uR)])) :: (b + 9, .inl (dA 0, 32, .inl (arI FR))) :: (b + 10, .inl (dA 1, 60, .inl (arI CR))) :: (b + 11, .inr (0, [.ref (b + 7), .ref (b + 12), .ref (b + 14), .ref (b + 16), .ref (b + 18)])) :: (b + 12, .inr (5, [.ref (b + 13), .int (iI lu)])) :: (b + 13, .inl (dA 0, 32, .inl (arI LF))) :: (b + 14, .inr (5, [.ref (b + 15), .int (iI ru)])) :: (b + 15, .inl (dA 0, 32, .inl (arI RF))) :: (b + 16, .inr (5, [.ref (b + 17), .int (iI su)])) :: (b + 17, .inl (dA 0, 32, .inl (arI SF))) :: (b + 18, .inr (5, [.ref (b + 19), .int (iI qu)])) :: (b + 19, .inl (dA 0, 32, .inl (arI QF))) :: (wVx dA a1 tv ngv scv lnv uv Cv Fv [])) rfl (fun _ => rfl) [b, b + 1, b + 2, b + 3, b + 4, b + 5, b + 6, b + 7, b + 8, b + 9, b + 10, b + 11, b + 12, b + 13, b + 14, b + 15, b + 16, b + 17, b + 18, b + 19, b + 20, b + 21, a1, a1 + 1, a1 + 2, a1 + 3] rfl (fun _ => rfl) (fun _ => rfl) (fun r20 u_ H locs hq20 hP hD hS => ?_)
  have hP : va_P (dC, dI) vwCl (wMr dA b tr hg wk at_ en cm rg st0 en0 lg tR ngR scR lnR uR lu ru su qu pl rv si D CR FR LF RF SF QF P (wVx dA a1 tv ngv scv lnv uv Cv Fv (tV1 dA b vs tp (si (hg - 1))))) H := hP
  have hD : va_D A (wMr dA b tr hg wk at_ en cm rg st0 en0 lg tR ngR scR lnR uR lu ru su qu pl rv si D CR FR LF RF SF QF P (wVx dA a1 tv ngv scv lnv uv Cv Fv (tV1 dA b vs tp (si (hg - 1))))) := hD
  have hq20 : r20 = 200 - pl := hq20
  refine iv_icmp_le (tgt := 29) hx hb dMr_printAndTake_23 (by decide) ⟨by omega, by omega⟩ ⟨by omega, by omega⟩ (fun hc23 => ?_) (fun hc23 => ?_)
  · refine lv_aload_n hx hb dMr_printAndTake_29 rfl (lv_at hl 1 rfl) ?_
    refine va_get (D := (dC, dI)) (ci := 6) (v := .ref (b + 20)) (C := "MacroReckoner") (T := TMr) (N := 11) hx hb hts inMr hown hK hP 0 rfl rfl 10 (by decide) (hts _ wt1_183) (fun _ h9 => h9) rfl dMr_printAndTake_30 ?_
    refine lv_aload_n hx hb dMr_printAndTake_33 rfl (lv_at hl 0 rfl) ?_
    refine cvT_v (we := wMr dA b tr hg wk at_ en cm rg st0 en0 lg tR ngR scR lnR uR lu ru su qu pl rv si D CR FR LF RF SF QF P (wVx dA a1 tv ngv scv lnv uv Cv Fv [])) (tl := tV1 dA b vs tp (si (hg - 1))) (va_runV (C := "MacroReckoner$Paper") (As := [.ref a1]) (rest := []) ⟨hx, hb, hml, hown, hts⟩ (cPa_print l dC dI dA dS (b + 20) (b + 21) P pl a1 (a1 + 1) (a1 + 3) tv ngv scv Cv lnv (a1 + 2) Fv uv N9 kd pt (thW (st.stk (st.h - 1))) (by exact hV9) (by exact hW9) (by exact hkd) (by exact hpt) (by exact hlw) (by omega) H.size) (cwV 1 hts (gdV wt3_218 wt3_219 wt3_220 wt1_7 wt3_221) rfl rfl rfl ⟨rfl, by decide, by decide, by decide +kernel⟩ ⟨by decide, by decide⟩) (preV (q := ("MacroReckoner$Paper", TPa, 2)) hK hP hD hS hA (XC_ok dS) hX [20, 21, 22, 25, 23, 24] rfl rfl 0 rfl rfl) rfl rfl hl.1 rfl (lv_room (Nat.le_of_ble_eq_true rfl)) dMr_printAndTake_34 ⟨Nat.zero_le _, Nat.zero_le _⟩) hP hD hS hA [20, 21, 22, 25, 23, 24] [0, 1, 2, 3, 4, 5, 6, 7, 8, 9, 10, 11, 12, 13, 14, 15, 16, 17, 18, 19] rfl (fun v_ => wMr dA b tr hg wk at_ en cm rg st0 en0 lg tR ngR scR lnR uR lu ru su qu ((pl + (thW (st.stk (st.h - 1))))) rv si D CR FR LF RF SF QF v_ (wVx dA a1 tv ngv scv lnv uv Cv Fv [])) (fun _ => rfl) ((b, .inr (6, [.ref (b + 1), .ref (b + 3), .int (iI tr), .ref (b + 4), .ref (b + 5), .int (iI hg), .ref (b + 6), .int (iI wk), .ref (b + 7), .ref (b + 11), .ref (b + 20)])) :: (b + 1, .inr (2, [.ref (b + 2), .int (iI at_), .int (iI en)])) :: (b + 2, .inl (dA 1, 100, .inl (arI D))) :: (b + 3, .inl (dA 5, 8, .inr (.inr (.inr (.inr (arR (tfA b))))))) :: (b + 4, .inr (3, [.int (iI cm), .int (iI rg), rv, .int (iI st0), .int (iI en0), .int (iI lg)])) :: (b + 5, .inl (dA 4, 20, .inr (.inr (.inr (.inr (arR (sfA b si))))))) :: (b + 6, .inl (dA 4, 26, .inr (.inr (.inr (.inr (arR (rfA b))))))) :: (b + 7, .inr (4, [.int (iI tR), .ref (b + 8), .int (iI ngR), .int (iI scR), .ref (b + 10), .int (iI lnR)])) :: (b + 8, .inr (5, [.ref (b + 9), .int (iI uR)])) :: (b + 9, .inl (dA 0, 32, .inl (arI FR))) :: (b + 10, .inl (dA 1, 60, .inl (arI CR))) :: (b + 11, .inr (0, [.ref (b + 7), .ref (b + 12), .ref (b + 14), .ref (b + 16), .ref (b + 18)])) :: (b + 12, .inr (5, [.ref (b + 13), .int (iI lu)])) :: (b + 13, .inl (dA 0, 32, .inl (arI LF))) :: (b + 14, .inr (5, [.ref (b + 15), .int (iI ru)])) :: (b + 15, .inl (dA 0, 32, .inl (arI RF))) :: (b + 16, .inr (5, [.ref (b + 17), .int (iI su)])) :: (b + 17, .inl (dA 0, 32, .inl (arI SF))) :: (b + 18, .inr (5, [.ref (b + 19), .int (iI qu)])) :: (b + 19, .inl (dA 0, 32, .inl (arI QF))) :: []) rfl (fun _ => rfl) [b, b + 1, b + 2, b + 3, b + 4, b + 5, b + 6, b + 7, b + 8, b + 9, b + 10, b + 11, b + 12, b + 13, b + 14, b + 15, b + 16, b + 17, b + 18, b + 19, b + 20, b + 21, a1, a1 + 1, a1 + 2, a1 + 3] rfl (fun _ => rfl) (fun _ => rfl) (fun u_ H locs hq34 hP hD hS => ?_)
    obtain ⟨P1_34, rfl⟩ : ∃ z, z = u_ := ⟨_, rfl⟩
    have hP : va_P (dC, dI) vwCl (wMr dA b tr hg wk at_ en cm rg st0 en0 lg tR ngR scR lnR uR lu ru su qu ((pl + (thW (st.stk (st.h - 1))))) rv si D CR FR LF RF SF QF P1_34 (wVx dA a1 tv ngv scv lnv uv Cv Fv (tV1 dA b vs tp (si (hg - 1))))) H := hP
    have hD : va_D A (wMr dA b tr hg wk at_ en cm rg st0 en0 lg tR ngR scR lnR uR lu ru su qu ((pl + (thW (st.stk (st.h - 1))))) rv si D CR FR LF RF SF QF P1_34 (wVx dA a1 tv ngv scv lnv uv Cv Fv (tV1 dA b vs tp (si (hg - 1))))) := hD
    have hq34 : (∀ j, j < pl → P1_34 j = P j) ∧ ∀ j, 0 ≤ j → j < (thW (st.stk (st.h - 1))) → P1_34 (pl + j) = prT tv ngv scv Cv N9 (max kd scv) j := hq34
    refine lv_aload_n hx hb dMr_printAndTake_37 rfl (lv_at hl 1 rfl) ?_
    refine lv_dup hx hb dMr_printAndTake_38 rfl ?_
    refine va_get (D := (dC, dI)) (ci := 6) (v := .int (iI hg)) (C := "MacroReckoner") (T := TMr) (N := 11) hx hb hts inMr hown hK hP 0 rfl rfl 5 (by decide) (hts _ wt1_178) (fun _ h9 => h9) rfl dMr_printAndTake_39 ?_
    refine lv_iconst (v := iI 1) hx hb dMr_printAndTake_42 rfl ?_
    refine iv_isub hx hb dMr_printAndTake_43 ?_
    refine va_put (D := (dC, dI)) (ci := 6) (v := .int (iI (hg - 1))) (ty := .int) (C := "MacroReckoner") (T := TMr) (N := 11) hx hb hts inMr tyMr tyMr_ok nmMr hown hK hP hD hS 0 rfl rfl 5 (by decide) (hts _ wt1_178) (fun _ h9 => h9) rfl (by decide +kernel) rfl rfl (Nat.le_of_ble_eq_true rfl) dMr_printAndTake_44 (fun H locs hP hD hS => ?_)
    have hP : va_P (dC, dI) vwCl (wMr dA b tr (hg - 1) wk at_ en cm rg st0 en0 lg tR ngR scR lnR uR lu ru su qu ((pl + (thW (st.stk (st.h - 1))))) rv si D CR FR LF RF SF QF P1_34 (wVx dA a1 tv ngv scv lnv uv Cv Fv (tV1 dA b vs tp (si (hg - 1))))) H := hP
    have hD : va_D A (wMr dA b tr (hg - 1) wk at_ en cm rg st0 en0 lg tR ngR scR lnR uR lu ru su qu ((pl + (thW (st.stk (st.h - 1))))) rv si D CR FR LF RF SF QF P1_34 (wVx dA a1 tv ngv scv lnv uv Cv Fv (tV1 dA b vs tp (si (hg - 1))))) := hD
    rw [e_a1] at hP hD
    have hP := va_P_pm (wMr_p (uV1 (dA := dA) (b := b) (vs := vs) (tp := tp) (k := si (hg - 1)) (v := (tv, ngv, scv, lnv, uv, Cv, Fv)) (by omega))) hP
    have hD := va_D_pm (wMr_p (uV1 (dA := dA) (b := b) (vs := vs) (tp := tp) (k := si (hg - 1)) (v := (tv, ngv, scv, lnv, uv, Cv, Fv)) (by omega))) hD
    rw [upF_id e_vv] at hP hD
    have hP : va_P (dC, dI) vwCl (wMr dA b tr (hg - 1) wk at_ en cm rg st0 en0 lg tR ngR scR lnR uR lu ru su qu ((pl + (thW (st.stk (st.h - 1))))) rv si D CR FR LF RF SF QF P1_34 (tl0 dA b vs tp)) H := hP
    have hD : va_D A (wMr dA b tr (hg - 1) wk at_ en cm rg st0 en0 lg tR ngR scR lnR uR lu ru su qu ((pl + (thW (st.stk (st.h - 1))))) rv si D CR FR LF RF SF QF P1_34 (tl0 dA b vs tp)) := hD
    refine lv_iconst (v := iI 0) hx hb dMr_printAndTake_47 rfl ?_
    exact rt_i hx hb hr hlocks hK hS dMr_printAndTake_48 (P1_34, (pl + (thW (st.stk (st.h - 1)))), hg - 1) hP hD (show 0 = (pnA st).1 ∧ (hg - 1) = (pnA st).2.h ∧ MG P1_34 ((pl + (thW (st.stk (st.h - 1))))) (pnA st).2 from by rw [(pn_x hr13).2 (by omega)]; exact ⟨rfl, by show hg - 1 = st.h - 1; omega, MG_c (MG_0 hMG rfl (by omega) hq34.1 (fun j x y => by rw [hlc j x y]; exact hq34.2 j x y) hlb) rfl rfl⟩)
  · rw [e_a1] at hP hD
    have hP := va_P_pm (wMr_p (uV1 (dA := dA) (b := b) (vs := vs) (tp := tp) (k := si (hg - 1)) (v := (tv, ngv, scv, lnv, uv, Cv, Fv)) (by omega))) hP
    have hD := va_D_pm (wMr_p (uV1 (dA := dA) (b := b) (vs := vs) (tp := tp) (k := si (hg - 1)) (v := (tv, ngv, scv, lnv, uv, Cv, Fv)) (by omega))) hD
    rw [upF_id e_vv] at hP hD
    have hP : va_P (dC, dI) vwCl (wMr dA b tr hg wk at_ en cm rg st0 en0 lg tR ngR scR lnR uR lu ru su qu pl rv si D CR FR LF RF SF QF P (tl0 dA b vs tp)) H := hP
    have hD : va_D A (wMr dA b tr hg wk at_ en cm rg st0 en0 lg tR ngR scR lnR uR lu ru su qu pl rv si D CR FR LF RF SF QF P (tl0 dA b vs tp)) := hD
    refine lv_bipush (v := iI (-10)) hx hb dMr_printAndTake_26 (by decide) ?_
    exact rt_i hx hb hr hlocks hK hS dMr_printAndTake_28 (P, pl, hg) hP hD (show (-10) = (pnA st).1 ∧ hg = (pnA st).2.h ∧ MG P pl (pnA st).2 from by rw [(pn_x hr13).1 (by omega)]; exact ⟨rfl, hh.1, hMG⟩)

theorem dMr_printAll_0 : decode prog_1_method_30_code 0 = .ok (.iconst 0, 1) := by decide +kernel
theorem dMr_printAll_1 : decode prog_1_method_30_code 1 = .ok (.istore_n 1, 1) := by decide +kernel
theorem dMr_printAll_2 : decode prog_1_method_30_code 2 = .ok (.iconst 0, 1) := by decide +kernel
theorem dMr_printAll_3 : decode prog_1_method_30_code 3 = .ok (.istore_n 2, 1) := by decide +kernel
theorem dMr_printAll_4 : decode prog_1_method_30_code 4 = .ok (.iload_n 2, 1) := by decide +kernel
theorem dMr_printAll_5 : decode prog_1_method_30_code 5 = .ok (.aload_n 0, 1) := by decide +kernel
theorem dMr_printAll_6 : decode prog_1_method_30_code 6 = .ok (.getfield 39, 3) := by decide +kernel
theorem dMr_printAll_9 : decode prog_1_method_30_code 9 = .ok (.if_icmp .ge 23, 3) := by decide +kernel
theorem dMr_printAll_12 : decode prog_1_method_30_code 12 = .ok (.iload_n 1, 1) := by decide +kernel
theorem dMr_printAll_13 : decode prog_1_method_30_code 13 = .ok (.aload_n 0, 1) := by decide +kernel
theorem dMr_printAll_14 : decode prog_1_method_30_code 14 = .ok (.getfield 35, 3) := by decide +kernel
theorem dMr_printAll_17 : decode prog_1_method_30_code 17 = .ok (.iload_n 2, 1) := by decide +kernel
theorem dMr_printAll_18 : decode prog_1_method_30_code 18 = .ok (.aaload, 1) := by decide +kernel
theorem dMr_printAll_19 : decode prog_1_method_30_code 19 = .ok (.invokevirtual 265, 3) := by decide +kernel
theorem dMr_printAll_22 : decode prog_1_method_30_code 22 = .ok (.iconst 1, 1) := by decide +kernel
theorem dMr_printAll_23 : decode prog_1_method_30_code 23 = .ok (.iadd, 1) := by decide +kernel
theorem dMr_printAll_24 : decode prog_1_method_30_code 24 = .ok (.iadd, 1) := by decide +kernel
theorem dMr_printAll_25 : decode prog_1_method_30_code 25 = .ok (.istore_n 1, 1) := by decide +kernel
theorem dMr_printAll_26 : decode prog_1_method_30_code 26 = .ok (.iinc 2 1, 3) := by decide +kernel
theorem dMr_printAll_29 : decode prog_1_method_30_code 29 = .ok (.goto (-25), 3) := by decide +kernel
theorem dMr_printAll_32 : decode prog_1_method_30_code 32 = .ok (.iload_n 1, 1) := by decide +kernel
theorem dMr_printAll_33 : decode prog_1_method_30_code 33 = .ok (.aload_n 0, 1) := by decide +kernel
theorem dMr_printAll_34 : decode prog_1_method_30_code 34 = .ok (.getfield 65, 3) := by decide +kernel
theorem dMr_printAll_37 : decode prog_1_method_30_code 37 = .ok (.invokevirtual 268, 3) := by decide +kernel
theorem dMr_printAll_40 : decode prog_1_method_30_code 40 = .ok (.if_icmp .le 6, 3) := by decide +kernel
theorem dMr_printAll_43 : decode prog_1_method_30_code 43 = .ok (.bipush (-10), 2) := by decide +kernel
theorem dMr_printAll_45 : decode prog_1_method_30_code 45 = .ok (.ireturn, 1) := by decide +kernel
theorem dMr_printAll_46 : decode prog_1_method_30_code 46 = .ok (.aload_n 0, 1) := by decide +kernel
theorem dMr_printAll_47 : decode prog_1_method_30_code 47 = .ok (.getfield 39, 3) := by decide +kernel
theorem dMr_printAll_50 : decode prog_1_method_30_code 50 = .ok (.iconst 1, 1) := by decide +kernel
theorem dMr_printAll_51 : decode prog_1_method_30_code 51 = .ok (.isub, 1) := by decide +kernel
theorem dMr_printAll_52 : decode prog_1_method_30_code 52 = .ok (.istore_n 2, 1) := by decide +kernel
theorem dMr_printAll_53 : decode prog_1_method_30_code 53 = .ok (.iload_n 2, 1) := by decide +kernel
theorem dMr_printAll_54 : decode prog_1_method_30_code 54 = .ok (.ifCond .lt 31, 3) := by decide +kernel
theorem dMr_printAll_57 : decode prog_1_method_30_code 57 = .ok (.aload_n 0, 1) := by decide +kernel
theorem dMr_printAll_58 : decode prog_1_method_30_code 58 = .ok (.getfield 65, 3) := by decide +kernel
theorem dMr_printAll_61 : decode prog_1_method_30_code 61 = .ok (.aload_n 0, 1) := by decide +kernel
theorem dMr_printAll_62 : decode prog_1_method_30_code 62 = .ok (.getfield 35, 3) := by decide +kernel
theorem dMr_printAll_65 : decode prog_1_method_30_code 65 = .ok (.iload_n 2, 1) := by decide +kernel
theorem dMr_printAll_66 : decode prog_1_method_30_code 66 = .ok (.aaload, 1) := by decide +kernel
theorem dMr_printAll_67 : decode prog_1_method_30_code 67 = .ok (.invokevirtual 271, 3) := by decide +kernel
theorem dMr_printAll_70 : decode prog_1_method_30_code 70 = .ok (.aload_n 0, 1) := by decide +kernel
theorem dMr_printAll_71 : decode prog_1_method_30_code 71 = .ok (.getfield 65, 3) := by decide +kernel
theorem dMr_printAll_74 : decode prog_1_method_30_code 74 = .ok (.bipush 10, 2) := by decide +kernel
theorem dMr_printAll_76 : decode prog_1_method_30_code 76 = .ok (.invokevirtual 274, 3) := by decide +kernel
theorem dMr_printAll_79 : decode prog_1_method_30_code 79 = .ok (.iinc 2 (-1), 3) := by decide +kernel
theorem dMr_printAll_82 : decode prog_1_method_30_code 82 = .ok (.goto (-29), 3) := by decide +kernel
theorem dMr_printAll_85 : decode prog_1_method_30_code 85 = .ok (.iconst 0, 1) := by decide +kernel
theorem dMr_printAll_86 : decode prog_1_method_30_code 86 = .ok (.ireturn, 1) := by decide +kernel
abbrev qMr_printAll (dC : Nat → ClassId) (dI : Nat → Nat → Nat) (dA : Nat → ClassId) (dS : Nat → Nat) (b : Nat) (tr : Int) (hg : Int) (wk : Int) (at_ : Int) (en : Int) (cm : Int) (rg : Int) (st0 : Int) (en0 : Int) (lg : Int) (tR : Int) (ngR : Int) (scR : Int) (lnR : Int) (uR : Int) (lu : Int) (ru : Int) (su : Int) (qu : Int) (pl : Int) (rv : Value) (si : Int → Nat) (D : Int → Int) (CR : Int → Int) (FR : Int → Int) (LF : Int → Int) (RF : Int → Int) (SF : Int → Int) (QF : Int → Int) (P : Int → Int) (vs : Nat → VS) (tp : Nat → TS) (st : AS) (A : Nat → Prop) : Array Value → State → Outcome → State → Prop := QI (dC, dI) vwCl (tyA dA) (fun (r : Int) (v_ : (Int → Int) × Int) => r = (pfA st).1 ∧ MG v_.1 v_.2 (pfA st).2) (fun (v_ : (Int → Int) × Int) => wMr dA b tr hg wk at_ en cm rg st0 en0 lg tR ngR scR lnR uR lu ru su qu v_.2 rv si D CR FR LF RF SF QF v_.1 (tl0 dA b vs tp)) A
abbrev rmMr_printAll : Room := { frames := 3, cells := 0, slots := 0, locals := 67 }
set_option maxRecDepth 100000 in
set_option maxHeartbeats 1000000 in
theorem cMr_printAll (l : Launch) (dC : Nat → ClassId) (dI : Nat → Nat → Nat) (dA : Nat → ClassId) (dS : Nat → Nat) (b : Nat) (tr : Int) (hg : Int) (wk : Int) (at_ : Int) (en : Int) (cm : Int) (rg : Int) (st0 : Int) (en0 : Int) (lg : Int) (tR : Int) (ngR : Int) (scR : Int) (lnR : Int) (uR : Int) (lu : Int) (ru : Int) (su : Int) (qu : Int) (pl : Int) (rv : Value) (si : Int → Nat) (D : Int → Int) (CR : Int → Int) (FR : Int → Int) (LF : Int → Int) (RF : Int → Int) (SF : Int → Int) (QF : Int → Int) (P : Int → Int) (vs : Nat → VS) (tp : Nat → TS) (st : AS) (hCH : CH si vs hg wk st) (hMG : MG P pl st) (sz : Nat) : Met l yMr_printAll wsMr_printAll rmMr_printAll (PC (dC, dI) vwCl (tyA dA) (XC dS) [.ref b] (wMr dA b tr hg wk at_ en cm rg st0 en0 lg tR ngR scR lnR uR lu ru su qu pl rv si D CR FR LF RF SF QF P (tl0 dA b vs tp)) sz) (qMr_printAll dC dI dA dS b tr hg wk at_ en cm rg st0 en0 lg tR ngR scR lnR uR lu ru su qu pl rv si D CR FR LF RF SF QF P vs tp st (va_A (wMr dA b tr hg wk at_ en cm rg st0 en0 lg tR ngR scR lnR uR lu ru su qu pl rv si D CR FR LF RF SF QF P (tl0 dA b vs tp)) sz)) 0 0 (va_A (wMr dA b tr hg wk at_ en cm rg st0 en0 lg tR ngR scR lnR uR lu ru su qu pl rv si D CR FR LF RF SF QF P (tl0 dA b vs tp)) sz) := by
  refine met_of (cc := prog_1_method_30_code) (maxL := 3) (ret := (some .int)) (Qc := qMr_printAll dC dI dA dS b tr hg wk at_ en cm rg st0 en0 lg tR ngR scR lnR uR lu ru su qu pl rv si D CR FR LF RF SF QF P vs tp st) (XC_ok dS) (by decide) rfl (Nat.le_of_ble_eq_true rfl) ?_
  intro p e s m below meth c ls A hx hb hr hml hown hts hlocks hnm hK hP hD hA hX hS hl
  have hl : lv_has ls 3 [(0, .ref b)] := hl
  have hown : s.vm.findClass "MacroReckoner" = some m.cls := hown
  obtain ⟨H, hH⟩ : ∃ H : Heap, H = s.heap := ⟨_, rfl⟩
  obtain ⟨locs, hlo⟩ : ∃ L : List Loc, L = [] := ⟨_, rfl⟩
  have hP : va_P (dC, dI) vwCl (wMr dA b tr hg wk at_ en cm rg st0 en0 lg tR ngR scR lnR uR lu ru su qu pl rv si D CR FR LF RF SF QF P (tl0 dA b vs tp)) H := hH ▸ hP
  have hS : va_S A s.heap H locs := by rw [hH, hlo]; exact hS
  suffices hgo : W p l e rmMr_printAll s m [.ref b].toArray below meth c H locs 0 0 (MQ below (qMr_printAll dC dI dA dS b tr hg wk at_ en cm rg st0 en0 lg tR ngR scR lnR uR lu ru su qu pl rv si D CR FR LF RF SF QF P vs tp st A) [.ref b].toArray s 0 0 A) (F0 m 0 ls []) by rw [hH, hlo] at hgo; exact hgo
  clear hH hlo
  have hh := hCH.1
  have hg9 := hMG.1
  refine lv_iconst (v := iI 0) hx hb dMr_printAll_0 rfl ?_
  refine lv_istore_n (lv' := [(1, .int (iI 0)), (0, .ref b)]) hx hb dMr_printAll_1 rfl hl (by decide) rfl (fun ls hl => ?_)
  refine lv_iconst (v := iI 0) hx hb dMr_printAll_2 rfl ?_
  refine lv_istore_n (lv' := [(2, .int (iI 0)), (1, .int (iI 0)), (0, .ref b)]) hx hb dMr_printAll_3 rfl hl (by decide) rfl (fun ls hl => ?_)
  have L4 : ∀ (n : Nat) (nd : Int) (i : Int) (H : Heap) (locs : List Loc) (ls : Array Slot), (0 ≤ i ∧ i ≤ hg) → (nd = swF st i.toNat ∧ 0 ≤ nd ∧ nd ≤ 103 * i) → (hg - i).toNat < n → va_P (dC, dI) vwCl (wMr dA b tr hg wk at_ en cm rg st0 en0 lg tR ngR scR lnR uR lu ru su qu pl rv si D CR FR LF RF SF QF P (tl0 dA b vs tp)) H → va_D A (wMr dA b tr hg wk at_ en cm rg st0 en0 lg tR ngR scR lnR uR lu ru su qu pl rv si D CR FR LF RF SF QF P (tl0 dA b vs tp)) → va_S A s.heap H locs → lv_has ls 3 [(2, .int (iI i)), (1, .int (iI nd)), (0, .ref b)] → W p l e rmMr_printAll s m [.ref b].toArray below meth c H locs 0 0 (MQ below (qMr_printAll dC dI dA dS b tr hg wk at_ en cm rg st0 en0 lg tR ngR scR lnR uR lu ru su qu pl rv si D CR FR LF RF SF QF P vs tp st A) [.ref b].toArray s 0 0 A) (F0 m 4 ls []) := by
    intro n
    induction n with
    | zero => intro nd i H locs ls hi hnd hn; omega
    | succ n ih =>
      intro nd i H locs ls hi hnd hn hP hD hS hl
      have ih4 := ih
      refine lv_iload_n hx hb dMr_printAll_4 rfl (lv_at hl 0 rfl) ?_
      refine lv_aload_n hx hb dMr_printAll_5 rfl (lv_at hl 2 rfl) ?_
      refine va_get (D := (dC, dI)) (ci := 6) (v := .int (iI hg)) (C := "MacroReckoner") (T := TMr) (N := 11) hx hb hts inMr hown hK hP 0 rfl rfl 5 (by decide) (hts _ wt1_178) (fun _ h9 => h9) rfl dMr_printAll_6 ?_
      refine iv_icmp_ge (tgt := 32) hx hb dMr_printAll_9 (by decide) ⟨by omega, by omega⟩ ⟨by omega, by omega⟩ (fun hc9 => ?_) (fun hc9 => ?_)
      · have hie : i = st.h := by omega
        have hsw := sw_al (st := st) (by omega)
        rw [hie] at hnd
        refine lv_iload_n hx hb dMr_printAll_32 rfl (lv_at hl 1 rfl) ?_
        refine lv_aload_n hx hb dMr_printAll_33 rfl (lv_at hl 2 rfl) ?_
        refine va_get (D := (dC, dI)) (ci := 6) (v := .ref (b + 20)) (C := "MacroReckoner") (T := TMr) (N := 11) hx hb hts inMr hown hK hP 0 rfl rfl 10 (by decide) (hts _ wt1_183) (fun _ h9 => h9) rfl dMr_printAll_34 ?_
        refine cvT_i (we := wMr dA b tr hg wk at_ en cm rg st0 en0 lg tR ngR scR lnR uR lu ru su qu pl rv si D CR FR LF RF SF QF P []) (tl := tl0 dA b vs tp) (va_runV (C := "MacroReckoner$Paper") (As := []) (rest := [.int (iI nd)]) ⟨hx, hb, hml, hown, hts⟩ (cPa_room l dC dI dA (b + 20) (b + 21) P pl  H.size) (cwV 0 hts (gdV wt3_214 wt3_215 wt3_216 wt1_7 wt3_217) rfl rfl rfl ⟨rfl, by decide, by decide, by decide +kernel⟩ ⟨by decide, by decide⟩) (preV (q := ("MacroReckoner$Paper", TPa, 2)) hK hP hD hS hA XN_ok trivial [20, 21] rfl rfl 0 rfl rfl) rfl rfl hl.1 rfl (lv_room (Nat.le_of_ble_eq_true rfl)) dMr_printAll_37 ⟨Nat.zero_le _, Nat.zero_le _⟩) hP hD hS hA [20, 21] [0, 1, 2, 3, 4, 5, 6, 7, 8, 9, 10, 11, 12, 13, 14, 15, 16, 17, 18, 19] rfl (fun v_ => wMr dA b tr hg wk at_ en cm rg st0 en0 lg tR ngR scR lnR uR lu ru su qu pl rv si D CR FR LF RF SF QF P []) (fun _ => rfl) ((b, .inr (6, [.ref (b + 1), .ref (b + 3), .int (iI tr), .ref (b + 4), .ref (b + 5), .int (iI hg), .ref (b + 6), .int (iI wk), .ref (b + 7), .ref (b + 11), .ref (b + 20)])) :: (b + 1, .inr (2, [.ref (b + 2), .int (iI at_), .int (iI en)])) :: (b + 2, .inl (dA 1, 100, .inl (arI D))) :: (b + 3, .inl (dA 5, 8, .inr (.inr (.inr (.inr (arR (tfA b))))))) :: (b + 4, .inr (3, [.int (iI cm), .int (iI rg), rv, .int (iI st0), .int (iI en0), .int (iI lg)])) :: (b + 5, .inl (dA 4, 20, .inr (.inr (.inr (.inr (arR (sfA b si))))))) :: (b + 6, .inl (dA 4, 26, .inr (.inr (.inr (.inr (arR (rfA b))))))) :: (b + 7, .inr (4, [.int (iI tR), .ref (b + 8), .int (iI ngR), .int (iI scR), .ref (b + 10), .int (iI lnR)])) :: (b + 8, .inr (5, [.ref (b + 9), .int (iI uR)])) :: (b + 9, .inl (dA 0, 32, .inl (arI FR))) :: (b + 10, .inl (dA 1, 60, .inl (arI CR))) :: (b + 11, .inr (0, [.ref (b + 7), .ref (b + 12), .ref (b + 14), .ref (b + 16), .ref (b + 18)])) :: (b + 12, .inr (5, [.ref (b + 13), .int (iI lu)])) :: (b + 13, .inl (dA 0, 32, .inl (arI LF))) :: (b + 14, .inr (5, [.ref (b + 15), .int (iI ru)])) :: (b + 15, .inl (dA 0, 32, .inl (arI RF))) :: (b + 16, .inr (5, [.ref (b + 17), .int (iI su)])) :: (b + 17, .inl (dA 0, 32, .inl (arI SF))) :: (b + 18, .inr (5, [.ref (b + 19), .int (iI qu)])) :: (b + 19, .inl (dA 0, 32, .inl (arI QF))) :: []) rfl (fun _ => rfl) [b, b + 1, b + 2, b + 3, b + 4, b + 5, b + 6, b + 7, b + 8, b + 9, b + 10, b + 11, b + 12, b + 13, b + 14, b + 15, b + 16, b + 17, b + 18, b + 19, b + 20, b + 21] rfl (fun _ => rfl) (fun _ => rfl) (fun r37 u_ H locs hq37 hP hD hS => ?_)
        have hP : va_P (dC, dI) vwCl (wMr dA b tr hg wk at_ en cm rg st0 en0 lg tR ngR scR lnR uR lu ru su qu pl rv si D CR FR LF RF SF QF P (tl0 dA b vs tp)) H := hP
        have hD : va_D A (wMr dA b tr hg wk at_ en cm rg st0 en0 lg tR ngR scR lnR uR lu ru su qu pl rv si D CR FR LF RF SF QF P (tl0 dA b vs tp)) := hD
        have hq37 : r37 = 200 - pl := hq37
        refine iv_icmp_le (tgt := 46) hx hb dMr_printAll_40 (by decide) ⟨by omega, by omega⟩ ⟨by omega, by omega⟩ (fun hc40 => ?_) (fun hc40 => ?_)
        · refine lv_aload_n hx hb dMr_printAll_46 rfl (lv_at hl 2 rfl) ?_
          refine va_get (D := (dC, dI)) (ci := 6) (v := .int (iI hg)) (C := "MacroReckoner") (T := TMr) (N := 11) hx hb hts inMr hown hK hP 0 rfl rfl 5 (by decide) (hts _ wt1_178) (fun _ h9 => h9) rfl dMr_printAll_47 ?_
          refine lv_iconst (v := iI 1) hx hb dMr_printAll_50 rfl ?_
          refine iv_isub hx hb dMr_printAll_51 ?_
          refine lv_istore_n (lv' := [(2, .int (iI (hg - 1))), (1, .int (iI nd)), (0, .ref b)]) hx hb dMr_printAll_52 rfl hl (by decide) rfl (fun ls hl => ?_)
          have L53 : ∀ (n : Nat) (P9 : Int → Int) (p9 : Int) (j8 : Int) (H : Heap) (locs : List Loc) (ls : Array Slot), (-1 ≤ j8 ∧ j8 < hg) → (MG P9 p9 (prN st 1 (st.h - (j8 + 1)).toNat)) → (j8 + 1).toNat < n → va_P (dC, dI) vwCl (wMr dA b tr hg wk at_ en cm rg st0 en0 lg tR ngR scR lnR uR lu ru su qu p9 rv si D CR FR LF RF SF QF P9 (tl0 dA b vs tp)) H → va_D A (wMr dA b tr hg wk at_ en cm rg st0 en0 lg tR ngR scR lnR uR lu ru su qu p9 rv si D CR FR LF RF SF QF P9 (tl0 dA b vs tp)) → va_S A s.heap H locs → lv_has ls 3 [(2, .int (iI j8)), (1, .int (iI nd)), (0, .ref b)] → W p l e rmMr_printAll s m [.ref b].toArray below meth c H locs 0 0 (MQ below (qMr_printAll dC dI dA dS b tr hg wk at_ en cm rg st0 en0 lg tR ngR scR lnR uR lu ru su qu pl rv si D CR FR LF RF SF QF P vs tp st A) [.ref b].toArray s 0 0 A) (F0 m 53 ls []) := by
            intro n
            induction n with
            | zero => intro P9 p9 j8 H locs ls hj8 hG8 hn; omega
            | succ n ih =>
              intro P9 p9 j8 H locs ls hj8 hG8 hn hP hD hS hl
              have ih53 := ih
              refine lv_iload_n hx hb dMr_printAll_53 rfl (lv_at hl 0 rfl) ?_
              refine iv_if_lt (tgt := 85) hx hb dMr_printAll_54 (by decide) ⟨by omega, by omega⟩ (fun hc54 => ?_) (fun hc54 => ?_)
              · refine lv_iconst (v := iI 0) hx hb dMr_printAll_85 rfl ?_
                exact rt_i hx hb hr hlocks hK hS dMr_printAll_86 (P9, p9) hP hD (show 0 = (pfA st).1 ∧ MG P9 p9 (pfA st).2 from by have hj9 : j8 = -1 := (by omega); rw [hj9, show st.h - (-1 + 1) = st.h by omega] at hG8; unfold pfA; rw [if_neg (by rw [hsw]; omega)]; exact ⟨rfl, hG8⟩)
              · have hs9 := hCH.2.2.1 j8 (by omega) (by omega)
                have hCV := hCH.2.2.2.2.2 j8 (by omega) (by omega)
                have hmo := sw_pr (st := st) (st.h - (j8 + 1) + 1) (by omega) (by omega)
                have hsn := sw_n hCH (st.h - (st.h - (j8 + 1) + 1)).toNat (by omega)
                rw [prN_s (by omega)] at hmo
                have hpe : (prA (prN st 1 (st.h - (j8 + 1)).toNat) (st.stk (st.h - 1 - (st.h - (j8 + 1)))) 1).pl = (prN st 1 (st.h - (j8 + 1)).toNat).pl + thW (st.stk (st.h - 1 - (st.h - (j8 + 1)))) + 1 := rfl
                rw [hpe, show st.h - 1 - (st.h - (j8 + 1)) = j8 by omega] at hmo
                have hg8 := hG8.1
                refine lv_aload_n hx hb dMr_printAll_57 rfl (lv_at hl 2 rfl) ?_
                refine va_get (D := (dC, dI)) (ci := 6) (v := .ref (b + 20)) (C := "MacroReckoner") (T := TMr) (N := 11) hx hb hts inMr hown hK hP 0 rfl rfl 10 (by decide) (hts _ wt1_183) (fun _ h9 => h9) rfl dMr_printAll_58 ?_
                refine lv_aload_n hx hb dMr_printAll_61 rfl (lv_at hl 2 rfl) ?_
                refine va_get (D := (dC, dI)) (ci := 6) (v := .ref (b + 5)) (C := "MacroReckoner") (T := TMr) (N := 11) hx hb hts inMr hown hK hP 0 rfl rfl 4 (by decide) (hts _ wt1_177) (fun _ h9 => h9) rfl dMr_printAll_62 ?_
                refine lv_iload_n hx hb dMr_printAll_65 rfl (lv_at hl 0 rfl) ?_
                refine iv_aald hx hb hK hP 5 4 rfl rfl (by decide) dMr_printAll_66 (by omega) (by omega) ?_
                refine W.eq (g2 := F0 m 67 ls [.ref (b + 38 + 4 * si j8), .ref (b + 20)]) rfl ?_
                obtain ⟨a2, e_a2⟩ : ∃ z : Nat, z = b + 38 + 4 * si j8 := ⟨_, rfl⟩
                rw [← e_a2]
                obtain ⟨⟨tv, ngv, scv, lnv, uv, Cv, Fv⟩, e_vv⟩ : ∃ z : VS, z = vs (si j8) := ⟨_, rfl⟩
                have hP := va_P_pm (wMr_p (fV1 (dA := dA) (b := b) (vs := vs) (tp := tp) (k := si j8) (by omega))) hP
                have hD := va_D_pm (wMr_p (fV1 (dA := dA) (b := b) (vs := vs) (tp := tp) (k := si j8) (by omega))) hD
                rw [← e_vv, ← e_a2] at hP hD
                have hP : va_P (dC, dI) vwCl (wMr dA b tr hg wk at_ en cm rg st0 en0 lg tR ngR scR lnR uR lu ru su qu p9 rv si D CR FR LF RF SF QF P9 (wVx dA a2 tv ngv scv lnv uv Cv Fv (tV1 dA b vs tp (si j8)))) H := hP
                have hD : va_D A (wMr dA b tr hg wk at_ en cm rg st0 en0 lg tR ngR scR lnR uR lu ru su qu p9 rv si D CR FR LF RF SF QF P9 (wVx dA a2 tv ngv scv lnv uv Cv Fv (tV1 dA b vs tp (si j8)))) := hD
                rw [← e_vv] at hCV
                obtain ⟨N9, hV9, hW9, ha1, ha2, ha3, ha4, ha5⟩ := hCV
                obtain ⟨kd, pt, hkd, hpt, hlw, hlc, hlb⟩ := cv_pr (a := (st.stk j8)) hV9 hW9 ha1 ha2 ha3 ha4 ha5
                have hV9 : VV tv ngv scv lnv Cv N9 := hV9
                have hW9 : WR Fv uv N9 := hW9
                have hpt : (0 < scv ∧ pt = 1) ∨ (scv = 0 ∧ pt = 0) := hpt
                have hlw : (tv = 1 ∧ thW (st.stk j8) = lnv) ∨ (tv = 0 ∧ N9 = 0 ∧ thW (st.stk j8) = 1) ∨ (tv = 0 ∧ N9 ≠ 0 ∧ thW (st.stk j8) = ngv + max kd scv + pt) := hlw
                have hlc : ∀ j, 0 ≤ j → j < thW (st.stk j8) → thC (st.stk j8) j = prT tv ngv scv Cv N9 (max kd scv) j := hlc
                refine cvT_v (we := wMr dA b tr hg wk at_ en cm rg st0 en0 lg tR ngR scR lnR uR lu ru su qu p9 rv si D CR FR LF RF SF QF P9 (wVx dA a2 tv ngv scv lnv uv Cv Fv [])) (tl := tV1 dA b vs tp (si j8)) (va_runV (C := "MacroReckoner$Paper") (As := [.ref a2]) (rest := []) ⟨hx, hb, hml, hown, hts⟩ (cPa_print l dC dI dA dS (b + 20) (b + 21) P9 p9 a2 (a2 + 1) (a2 + 3) tv ngv scv Cv lnv (a2 + 2) Fv uv N9 kd pt (thW (st.stk j8)) (by exact hV9) (by exact hW9) (by exact hkd) (by exact hpt) (by exact hlw) (by omega) H.size) (cwV 1 hts (gdV wt3_218 wt3_219 wt3_220 wt1_7 wt3_221) rfl rfl rfl ⟨rfl, by decide, by decide, by decide +kernel⟩ ⟨by decide, by decide⟩) (preV (q := ("MacroReckoner$Paper", TPa, 2)) hK hP hD hS hA (XC_ok dS) hX [20, 21, 22, 25, 23, 24] rfl rfl 0 rfl rfl) rfl rfl hl.1 rfl (lv_room (Nat.le_of_ble_eq_true rfl)) dMr_printAll_67 ⟨Nat.zero_le _, Nat.zero_le _⟩) hP hD hS hA [20, 21, 22, 25, 23, 24] [0, 1, 2, 3, 4, 5, 6, 7, 8, 9, 10, 11, 12, 13, 14, 15, 16, 17, 18, 19] rfl (fun v_ => wMr dA b tr hg wk at_ en cm rg st0 en0 lg tR ngR scR lnR uR lu ru su qu ((p9 + (thW (st.stk j8)))) rv si D CR FR LF RF SF QF v_ (wVx dA a2 tv ngv scv lnv uv Cv Fv [])) (fun _ => rfl) ((b, .inr (6, [.ref (b + 1), .ref (b + 3), .int (iI tr), .ref (b + 4), .ref (b + 5), .int (iI hg), .ref (b + 6), .int (iI wk), .ref (b + 7), .ref (b + 11), .ref (b + 20)])) :: (b + 1, .inr (2, [.ref (b + 2), .int (iI at_), .int (iI en)])) :: (b + 2, .inl (dA 1, 100, .inl (arI D))) :: (b + 3, .inl (dA 5, 8, .inr (.inr (.inr (.inr (arR (tfA b))))))) :: (b + 4, .inr (3, [.int (iI cm), .int (iI rg), rv, .int (iI st0), .int (iI en0), .int (iI lg)])) :: (b + 5, .inl (dA 4, 20, .inr (.inr (.inr (.inr (arR (sfA b si))))))) :: (b + 6, .inl (dA 4, 26, .inr (.inr (.inr (.inr (arR (rfA b))))))) :: (b + 7, .inr (4, [.int (iI tR), .ref (b + 8), .int (iI ngR), .int (iI scR), .ref (b + 10), .int (iI lnR)])) :: (b + 8, .inr (5, [.ref (b + 9), .int (iI uR)])) :: (b + 9, .inl (dA 0, 32, .inl (arI FR))) :: (b + 10, .inl (dA 1, 60, .inl (arI CR))) :: (b + 11, .inr (0, [.ref (b + 7), .ref (b + 12), .ref (b + 14), .ref (b + 16), .ref (b + 18)])) :: (b + 12, .inr (5, [.ref (b + 13), .int (iI lu)])) :: (b + 13, .inl (dA 0, 32, .inl (arI LF))) :: (b + 14, .inr (5, [.ref (b + 15), .int (iI ru)])) :: (b + 15, .inl (dA 0, 32, .inl (arI RF))) :: (b + 16, .inr (5, [.ref (b + 17), .int (iI su)])) :: (b + 17, .inl (dA 0, 32, .inl (arI SF))) :: (b + 18, .inr (5, [.ref (b + 19), .int (iI qu)])) :: (b + 19, .inl (dA 0, 32, .inl (arI QF))) :: []) rfl (fun _ => rfl) [b, b + 1, b + 2, b + 3, b + 4, b + 5, b + 6, b + 7, b + 8, b + 9, b + 10, b + 11, b + 12, b + 13, b + 14, b + 15, b + 16, b + 17, b + 18, b + 19, b + 20, b + 21, a2, a2 + 1, a2 + 2, a2 + 3] rfl (fun _ => rfl) (fun _ => rfl) (fun u_ H locs hq67 hP hD hS => ?_)
                obtain ⟨P1_67, rfl⟩ : ∃ z, z = u_ := ⟨_, rfl⟩
                have hP : va_P (dC, dI) vwCl (wMr dA b tr hg wk at_ en cm rg st0 en0 lg tR ngR scR lnR uR lu ru su qu ((p9 + (thW (st.stk j8)))) rv si D CR FR LF RF SF QF P1_67 (wVx dA a2 tv ngv scv lnv uv Cv Fv (tV1 dA b vs tp (si j8)))) H := hP
                have hD : va_D A (wMr dA b tr hg wk at_ en cm rg st0 en0 lg tR ngR scR lnR uR lu ru su qu ((p9 + (thW (st.stk j8)))) rv si D CR FR LF RF SF QF P1_67 (wVx dA a2 tv ngv scv lnv uv Cv Fv (tV1 dA b vs tp (si j8)))) := hD
                have hq67 : (∀ j, j < p9 → P1_67 j = P9 j) ∧ ∀ j, 0 ≤ j → j < (thW (st.stk j8)) → P1_67 (p9 + j) = prT tv ngv scv Cv N9 (max kd scv) j := hq67
                refine lv_aload_n hx hb dMr_printAll_70 rfl (lv_at hl 2 rfl) ?_
                refine va_get (D := (dC, dI)) (ci := 6) (v := .ref (b + 20)) (C := "MacroReckoner") (T := TMr) (N := 11) hx hb hts inMr hown hK hP 0 rfl rfl 10 (by decide) (hts _ wt1_183) (fun _ h9 => h9) rfl dMr_printAll_71 ?_
                refine lv_bipush (v := iI 10) hx hb dMr_printAll_74 (by decide) ?_
                refine cvT_v (we := wMr dA b tr hg wk at_ en cm rg st0 en0 lg tR ngR scR lnR uR lu ru su qu ((p9 + (thW (st.stk j8)))) rv si D CR FR LF RF SF QF P1_67 (wVx dA a2 tv ngv scv lnv uv Cv Fv [])) (tl := tV1 dA b vs tp (si j8)) (va_runV (C := "MacroReckoner$Paper") (As := [.int (iI 10)]) (rest := []) ⟨hx, hb, hml, hown, hts⟩ (cPa_put l dC dI dA (b + 20) (b + 21) P1_67 (((p9 + (thW (st.stk j8))))) 10 (by omega) (by omega) H.size) (cwV 1 hts (gdV wt3_237 wt3_223 wt3_224 wt1_7 wt3_225) rfl rfl rfl ⟨rfl, by decide, by decide, by decide +kernel⟩ ⟨by decide, by decide⟩) (preV (q := ("MacroReckoner$Paper", TPa, 2)) hK hP hD hS hA XN_ok trivial [20, 21] rfl rfl 0 rfl rfl) rfl rfl hl.1 rfl (lv_room (Nat.le_of_ble_eq_true rfl)) dMr_printAll_76 ⟨Nat.zero_le _, Nat.zero_le _⟩) hP hD hS hA [20, 21] [0, 1, 2, 3, 4, 5, 6, 7, 8, 9, 10, 11, 12, 13, 14, 15, 16, 17, 18, 19, 22, 23, 24, 25] rfl (fun v_ => wMr dA b tr hg wk at_ en cm rg st0 en0 lg tR ngR scR lnR uR lu ru su qu (((((p9 + (thW (st.stk j8))))) + 1)) rv si D CR FR LF RF SF QF ((up P1_67 (((p9 + (thW (st.stk j8))))) 10)) (wVx dA a2 tv ngv scv lnv uv Cv Fv [])) (fun _ => rfl) ((b, .inr (6, [.ref (b + 1), .ref (b + 3), .int (iI tr), .ref (b + 4), .ref (b + 5), .int (iI hg), .ref (b + 6), .int (iI wk), .ref (b + 7), .ref (b + 11), .ref (b + 20)])) :: (b + 1, .inr (2, [.ref (b + 2), .int (iI at_), .int (iI en)])) :: (b + 2, .inl (dA 1, 100, .inl (arI D))) :: (b + 3, .inl (dA 5, 8, .inr (.inr (.inr (.inr (arR (tfA b))))))) :: (b + 4, .inr (3, [.int (iI cm), .int (iI rg), rv, .int (iI st0), .int (iI en0), .int (iI lg)])) :: (b + 5, .inl (dA 4, 20, .inr (.inr (.inr (.inr (arR (sfA b si))))))) :: (b + 6, .inl (dA 4, 26, .inr (.inr (.inr (.inr (arR (rfA b))))))) :: (b + 7, .inr (4, [.int (iI tR), .ref (b + 8), .int (iI ngR), .int (iI scR), .ref (b + 10), .int (iI lnR)])) :: (b + 8, .inr (5, [.ref (b + 9), .int (iI uR)])) :: (b + 9, .inl (dA 0, 32, .inl (arI FR))) :: (b + 10, .inl (dA 1, 60, .inl (arI CR))) :: (b + 11, .inr (0, [.ref (b + 7), .ref (b + 12), .ref (b + 14), .ref (b + 16), .ref (b + 18)])) :: (b + 12, .inr (5, [.ref (b + 13), .int (iI lu)])) :: (b + 13, .inl (dA 0, 32, .inl (arI LF))) :: (b + 14, .inr (5, [.ref (b + 15), .int (iI ru)])) :: (b + 15, .inl (dA 0, 32, .inl (arI RF))) :: (b + 16, .inr (5, [.ref (b + 17), .int (iI su)])) :: (b + 17, .inl (dA 0, 32, .inl (arI SF))) :: (b + 18, .inr (5, [.ref (b + 19), .int (iI qu)])) :: (b + 19, .inl (dA 0, 32, .inl (arI QF))) :: (wVx dA a2 tv ngv scv lnv uv Cv Fv [])) rfl (fun _ => rfl) [b, b + 1, b + 2, b + 3, b + 4, b + 5, b + 6, b + 7, b + 8, b + 9, b + 10, b + 11, b + 12, b + 13, b + 14, b + 15, b + 16, b + 17, b + 18, b + 19, b + 20, b + 21, a2, a2 + 1, a2 + 2, a2 + 3] rfl (fun _ => rfl) (fun _ => rfl) (fun u_ H locs hq76 hP hD hS => ?_)
                have hP : va_P (dC, dI) vwCl (wMr dA b tr hg wk at_ en cm rg st0 en0 lg tR ngR scR lnR uR lu ru su qu (((((p9 + (thW (st.stk j8))))) + 1)) rv si D CR FR LF RF SF QF ((up P1_67 (((p9 + (thW (st.stk j8))))) 10)) (wVx dA a2 tv ngv scv lnv uv Cv Fv (tV1 dA b vs tp (si j8)))) H := hP
                have hD : va_D A (wMr dA b tr hg wk at_ en cm rg st0 en0 lg tR ngR scR lnR uR lu ru su qu (((((p9 + (thW (st.stk j8))))) + 1)) rv si D CR FR LF RF SF QF ((up P1_67 (((p9 + (thW (st.stk j8))))) 10)) (wVx dA a2 tv ngv scv lnv uv Cv Fv (tV1 dA b vs tp (si j8)))) := hD
                have hq76 : True := hq76
                rw [e_a2] at hP hD
                have hP := va_P_pm (wMr_p (uV1 (dA := dA) (b := b) (vs := vs) (tp := tp) (k := si j8) (v := (tv, ngv, scv, lnv, uv, Cv, Fv)) (by omega))) hP
                have hD := va_D_pm (wMr_p (uV1 (dA := dA) (b := b) (vs := vs) (tp := tp) (k := si j8) (v := (tv, ngv, scv, lnv, uv, Cv, Fv)) (by omega))) hD
                rw [upF_id e_vv] at hP hD
                have hP : va_P (dC, dI) vwCl (wMr dA b tr hg wk at_ en cm rg st0 en0 lg tR ngR scR lnR uR lu ru su qu (((((p9 + (thW (st.stk j8))))) + 1)) rv si D CR FR LF RF SF QF ((up P1_67 (((p9 + (thW (st.stk j8))))) 10)) (tl0 dA b vs tp)) H := hP
                have hD : va_D A (wMr dA b tr hg wk at_ en cm rg st0 en0 lg tR ngR scR lnR uR lu ru su qu (((((p9 + (thW (st.stk j8))))) + 1)) rv si D CR FR LF RF SF QF ((up P1_67 (((p9 + (thW (st.stk j8))))) 10)) (tl0 dA b vs tp)) := hD
                refine lv_iinc (k := 0) (lv' := [(2, .int (iI (j8 - 1))), (1, .int (iI nd)), (0, .ref b)]) (v := iI (j8 - 1)) hx hb dMr_printAll_79 hl rfl (by rw [show (Int32.ofInt (-1)) = iI (-1) from rfl, ← iI_add]; congr 1) (by decide) rfl (fun ls hl => ?_)
                refine lv_goto (tgt := 53) hx hb dMr_printAll_82 (by decide) ?_
                exact ih53 ((up P1_67 (((p9 + (thW (st.stk j8))))) 10)) (((((p9 + (thW (st.stk j8))))) + 1)) (j8 - 1) H locs ls (by omega) (by have hM1 := MG_1 hG8 (n1 := p9 + thW (st.stk j8)) rfl (by omega) hq67.1 (fun j x y => by rw [hlc j x y]; exact hq67.2 j x y) hlb; rw [show st.h - (j8 - 1 + 1) = st.h - (j8 + 1) + 1 by omega, prN_s (by omega), show st.h - 1 - (st.h - (j8 + 1)) = j8 by omega]; exact hM1) (by omega) hP hD hS (lv_sub hl [0, 1, 2] rfl)
          exact L53 _ P pl (hg - 1) H locs ls (by omega) (by rw [show st.h - (hg - 1 + 1) = 0 by omega]; exact hMG) (Nat.lt_succ_self _) hP hD hS (lv_sub hl [0, 1, 2] rfl)
        · refine lv_bipush (v := iI (-10)) hx hb dMr_printAll_43 (by decide) ?_
          exact rt_i hx hb hr hlocks hK hS dMr_printAll_45 (P, pl) hP hD (show (-10) = (pfA st).1 ∧ MG P pl (pfA st).2 from by unfold pfA; rw [if_pos (by rw [hsw]; omega)]; exact ⟨rfl, hMG⟩)
      · have hs9 := hCH.2.2.1 i (by omega) (by omega)
        have hCV := hCH.2.2.2.2.2 i (by omega) (by omega)
        refine lv_iload_n hx hb dMr_printAll_12 rfl (lv_at hl 1 rfl) ?_
        refine lv_aload_n hx hb dMr_printAll_13 rfl (lv_at hl 2 rfl) ?_
        refine va_get (D := (dC, dI)) (ci := 6) (v := .ref (b + 5)) (C := "MacroReckoner") (T := TMr) (N := 11) hx hb hts inMr hown hK hP 0 rfl rfl 4 (by decide) (hts _ wt1_177) (fun _ h9 => h9) rfl dMr_printAll_14 ?_
        refine lv_iload_n hx hb dMr_printAll_17 rfl (lv_at hl 0 rfl) ?_
        refine iv_aald hx hb hK hP 5 4 rfl rfl (by decide) dMr_printAll_18 (by omega) (by omega) ?_
        refine W.eq (g2 := F0 m 19 ls [.ref (b + 38 + 4 * si i), .int (iI nd)]) rfl ?_
        obtain ⟨a1, e_a1⟩ : ∃ z : Nat, z = b + 38 + 4 * si i := ⟨_, rfl⟩
        rw [← e_a1]
        obtain ⟨⟨tv, ngv, scv, lnv, uv, Cv, Fv⟩, e_vv⟩ : ∃ z : VS, z = vs (si i) := ⟨_, rfl⟩
        have hP := va_P_pm (wMr_p (fV1 (dA := dA) (b := b) (vs := vs) (tp := tp) (k := si i) (by omega))) hP
        have hD := va_D_pm (wMr_p (fV1 (dA := dA) (b := b) (vs := vs) (tp := tp) (k := si i) (by omega))) hD
        rw [← e_vv, ← e_a1] at hP hD
        have hP : va_P (dC, dI) vwCl (wMr dA b tr hg wk at_ en cm rg st0 en0 lg tR ngR scR lnR uR lu ru su qu pl rv si D CR FR LF RF SF QF P (wVx dA a1 tv ngv scv lnv uv Cv Fv (tV1 dA b vs tp (si i)))) H := hP
        have hD : va_D A (wMr dA b tr hg wk at_ en cm rg st0 en0 lg tR ngR scR lnR uR lu ru su qu pl rv si D CR FR LF RF SF QF P (wVx dA a1 tv ngv scv lnv uv Cv Fv (tV1 dA b vs tp (si i)))) := hD
        rw [← e_vv] at hCV
        obtain ⟨N9, hV9, hW9, ha1, ha2, ha3, ha4, ha5⟩ := hCV
        obtain ⟨kd, pt, hkd, hpt, hlw, hlc, hlb⟩ := cv_pr (a := (st.stk i)) hV9 hW9 ha1 ha2 ha3 ha4 ha5
        have hV9 : VV tv ngv scv lnv Cv N9 := hV9
        have hW9 : WR Fv uv N9 := hW9
        have hpt : (0 < scv ∧ pt = 1) ∨ (scv = 0 ∧ pt = 0) := hpt
        have hlw : (tv = 1 ∧ thW (st.stk i) = lnv) ∨ (tv = 0 ∧ N9 = 0 ∧ thW (st.stk i) = 1) ∨ (tv = 0 ∧ N9 ≠ 0 ∧ thW (st.stk i) = ngv + max kd scv + pt) := hlw
        have hlc : ∀ j, 0 ≤ j → j < thW (st.stk i) → thC (st.stk i) j = prT tv ngv scv Cv N9 (max kd scv) j := hlc
        refine cvT_i (we := wMr dA b tr hg wk at_ en cm rg st0 en0 lg tR ngR scR lnR uR lu ru su qu pl rv si D CR FR LF RF SF QF P (wVx dA a1 tv ngv scv lnv uv Cv Fv [])) (tl := tV1 dA b vs tp (si i)) (va_runV (C := "MacroReckoner$Value") (As := []) (rest := [.int (iI nd)]) ⟨hx, hb, hml, hown, hts⟩ (cVa_printLength l dC dI dA dS a1 (a1 + 1) (a1 + 3) tv ngv scv Cv lnv (a1 + 2) Fv uv N9 (by exact hV9) (by exact hW9) H.size) (cwV 0 hts (gdV wt3_209 wt3_210 wt3_211 wt1_4 wt3_212) rfl rfl rfl ⟨rfl, by decide, by decide, by decide +kernel⟩ ⟨by decide, by decide⟩) (preV (q := ("MacroReckoner$Value", TVa, 6)) hK hP hD hS hA (XC_ok dS) hX [22, 25, 23, 24] rfl rfl 0 rfl rfl) rfl rfl hl.1 rfl (lv_room (Nat.le_of_ble_eq_true rfl)) dMr_printAll_19 ⟨Nat.zero_le _, Nat.zero_le _⟩) hP hD hS hA [22, 25, 23, 24] [0, 1, 2, 3, 4, 5, 6, 7, 8, 9, 10, 11, 12, 13, 14, 15, 16, 17, 18, 19, 20, 21] rfl (fun v_ => wMr dA b tr hg wk at_ en cm rg st0 en0 lg tR ngR scR lnR uR lu ru su qu pl rv si D CR FR LF RF SF QF P (wVx dA a1 tv ngv scv lnv uv Cv Fv [])) (fun _ => rfl) (wMr dA b tr hg wk at_ en cm rg st0 en0 lg tR ngR scR lnR uR lu ru su qu pl rv si D CR FR LF RF SF QF P []) rfl (fun _ => rfl) [b, b + 1, b + 2, b + 3, b + 4, b + 5, b + 6, b + 7, b + 8, b + 9, b + 10, b + 11, b + 12, b + 13, b + 14, b + 15, b + 16, b + 17, b + 18, b + 19, b + 20, b + 21, a1, a1 + 1, a1 + 2, a1 + 3] rfl (fun _ => rfl) (fun _ => rfl) (fun r19 u_ H locs hq19 hP hD hS => ?_)
        have hP : va_P (dC, dI) vwCl (wMr dA b tr hg wk at_ en cm rg st0 en0 lg tR ngR scR lnR uR lu ru su qu pl rv si D CR FR LF RF SF QF P (wVx dA a1 tv ngv scv lnv uv Cv Fv (tV1 dA b vs tp (si i)))) H := hP
        have hD : va_D A (wMr dA b tr hg wk at_ en cm rg st0 en0 lg tR ngR scR lnR uR lu ru su qu pl rv si D CR FR LF RF SF QF P (wVx dA a1 tv ngv scv lnv uv Cv Fv (tV1 dA b vs tp (si i)))) := hD
        have hq19 : (tv = 1 ∧ r19 = lnv) ∨ (tv = 0 ∧ N9 = 0 ∧ r19 = 1) ∨ (tv = 0 ∧ N9 ≠ 0 ∧ ∃ k, DL N9 k ∧ k ≤ 60 ∧ r19 = max k scv + (if 0 < scv then 1 else 0) + ngv) := hq19
        have hr19 : r19 = thW (st.stk i) := pln_e hkd hpt hlw hq19
        clear hq19
        clear hq19
        rw [e_a1] at hP hD
        have hP := va_P_pm (wMr_p (uV1 (dA := dA) (b := b) (vs := vs) (tp := tp) (k := si i) (v := (tv, ngv, scv, lnv, uv, Cv, Fv)) (by omega))) hP
        have hD := va_D_pm (wMr_p (uV1 (dA := dA) (b := b) (vs := vs) (tp := tp) (k := si i) (v := (tv, ngv, scv, lnv, uv, Cv, Fv)) (by omega))) hD
        rw [upF_id e_vv] at hP hD
        have hP : va_P (dC, dI) vwCl (wMr dA b tr hg wk at_ en cm rg st0 en0 lg tR ngR scR lnR uR lu ru su qu pl rv si D CR FR LF RF SF QF P (tl0 dA b vs tp)) H := hP
        have hD : va_D A (wMr dA b tr hg wk at_ en cm rg st0 en0 lg tR ngR scR lnR uR lu ru su qu pl rv si D CR FR LF RF SF QF P (tl0 dA b vs tp)) := hD
        refine lv_iconst (v := iI 1) hx hb dMr_printAll_22 rfl ?_
        refine iv_iadd hx hb dMr_printAll_23 ?_
        refine iv_iadd hx hb dMr_printAll_24 ?_
        refine lv_istore_n (lv' := [(1, .int (iI (nd + (r19 + 1)))), (2, .int (iI i)), (0, .ref b)]) hx hb dMr_printAll_25 rfl hl (by decide) rfl (fun ls hl => ?_)
        refine lv_iinc (k := 1) (lv' := [(2, .int (iI (i + 1))), (1, .int (iI (nd + (r19 + 1)))), (0, .ref b)]) (v := iI (i + 1)) hx hb dMr_printAll_26 hl rfl (iI_add _ _).symm (by decide) rfl (fun ls hl => ?_)
        refine lv_goto (tgt := 4) hx hb dMr_printAll_29 (by decide) ?_
        exact ih4 (nd + (r19 + 1)) (i + 1) H locs ls (by omega) (by rw [swF_s hi.1]; omega) (by omega) hP hD hS (lv_sub hl [0, 1, 2] rfl)
  exact L4 _ 0 0 H locs ls (by omega) (by exact ⟨rfl, by omega, by omega⟩) (Nat.lt_succ_self _) hP hD hS (lv_sub hl [0, 1, 2] rfl)
