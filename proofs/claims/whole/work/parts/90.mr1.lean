theorem dMr_push_0 : decode prog_1_method_19_code 0 = .ok (.aload_n 0, 1) := by decide +kernel
theorem dMr_push_1 : decode prog_1_method_19_code 1 = .ok (.getfield 39, 3) := by decide +kernel
theorem dMr_push_4 : decode prog_1_method_19_code 4 = .ok (.bipush 20, 2) := by decide +kernel
theorem dMr_push_6 : decode prog_1_method_19_code 6 = .ok (.if_icmp .ne 6, 3) := by decide +kernel
theorem dMr_push_9 : decode prog_1_method_19_code 9 = .ok (.bipush (-8), 2) := by decide +kernel
theorem dMr_push_11 : decode prog_1_method_19_code 11 = .ok (.ireturn, 1) := by decide +kernel
theorem dMr_push_12 : decode prog_1_method_19_code 12 = .ok (.aload_n 0, 1) := by decide +kernel
theorem dMr_push_13 : decode prog_1_method_19_code 13 = .ok (.getfield 35, 3) := by decide +kernel
theorem dMr_push_16 : decode prog_1_method_19_code 16 = .ok (.aload_n 0, 1) := by decide +kernel
theorem dMr_push_17 : decode prog_1_method_19_code 17 = .ok (.getfield 39, 3) := by decide +kernel
theorem dMr_push_20 : decode prog_1_method_19_code 20 = .ok (.aaload, 1) := by decide +kernel
theorem dMr_push_21 : decode prog_1_method_19_code 21 = .ok (.aload_n 1, 1) := by decide +kernel
theorem dMr_push_22 : decode prog_1_method_19_code 22 = .ok (.invokevirtual 206, 3) := by decide +kernel
theorem dMr_push_25 : decode prog_1_method_19_code 25 = .ok (.aload_n 0, 1) := by decide +kernel
theorem dMr_push_26 : decode prog_1_method_19_code 26 = .ok (.dup, 1) := by decide +kernel
theorem dMr_push_27 : decode prog_1_method_19_code 27 = .ok (.getfield 39, 3) := by decide +kernel
theorem dMr_push_30 : decode prog_1_method_19_code 30 = .ok (.iconst 1, 1) := by decide +kernel
theorem dMr_push_31 : decode prog_1_method_19_code 31 = .ok (.iadd, 1) := by decide +kernel
theorem dMr_push_32 : decode prog_1_method_19_code 32 = .ok (.putfield 39, 3) := by decide +kernel
theorem dMr_push_35 : decode prog_1_method_19_code 35 = .ok (.iconst 0, 1) := by decide +kernel
theorem dMr_push_36 : decode prog_1_method_19_code 36 = .ok (.ireturn, 1) := by decide +kernel
abbrev qMr_push_R (dC : Nat → ClassId) (dI : Nat → Nat → Nat) (dA : Nat → ClassId) (dS : Nat → Nat) (b : Nat) (tr : Int) (hg : Int) (wk : Int) (at_ : Int) (en : Int) (cm : Int) (rg : Int) (st0 : Int) (en0 : Int) (lg : Int) (tR : Int) (ngR : Int) (scR : Int) (lnR : Int) (uR : Int) (lu : Int) (ru : Int) (su : Int) (qu : Int) (pl : Int) (rv : Value) (si : Int → Nat) (D : Int → Int) (CR : Int → Int) (FR : Int → Int) (LF : Int → Int) (RF : Int → Int) (SF : Int → Int) (QF : Int → Int) (P : Int → Int) (vs : Nat → VS) (tp : Nat → TS) (st : AS) (xa : Th) (A : Nat → Prop) : Array Value → State → Outcome → State → Prop := QI (dC, dI) vwCl (tyA dA) (fun (r : Int) (v_ : (Nat → VS) × Int) => r = (pushA st xa).1 ∧ CH si v_.1 v_.2 wk (pushA st xa).2) (fun (v_ : (Nat → VS) × Int) => wMr dA b tr v_.2 wk at_ en cm rg st0 en0 lg tR ngR scR lnR uR lu ru su qu pl rv si D CR FR LF RF SF QF P (tl0 dA b v_.1 tp)) A
abbrev rmMr_push_R : Room := { frames := 3, cells := 0, slots := 0, locals := 102 }
set_option maxRecDepth 100000 in
set_option maxHeartbeats 1000000 in
theorem cMr_push_R (l : Launch) (dC : Nat → ClassId) (dI : Nat → Nat → Nat) (dA : Nat → ClassId) (dS : Nat → Nat) (b : Nat) (tr : Int) (hg : Int) (wk : Int) (at_ : Int) (en : Int) (cm : Int) (rg : Int) (st0 : Int) (en0 : Int) (lg : Int) (tR : Int) (ngR : Int) (scR : Int) (lnR : Int) (uR : Int) (lu : Int) (ru : Int) (su : Int) (qu : Int) (pl : Int) (rv : Value) (si : Int → Nat) (D : Int → Int) (CR : Int → Int) (FR : Int → Int) (LF : Int → Int) (RF : Int → Int) (SF : Int → Int) (QF : Int → Int) (P : Int → Int) (vs : Nat → VS) (tp : Nat → TS) (st : AS) (xa : Th) (hCH : CH si vs hg wk st) (hCR : CV (tR, ngR, scR, lnR, uR, CR, FR) xa) (sz : Nat) : Met l yMr_push wsMr_push rmMr_push_R (PC (dC, dI) vwCl (tyA dA) (XC dS) [.ref b, .ref (b + 7)] (wMr dA b tr hg wk at_ en cm rg st0 en0 lg tR ngR scR lnR uR lu ru su qu pl rv si D CR FR LF RF SF QF P (tl0 dA b vs tp)) sz) (qMr_push_R dC dI dA dS b tr hg wk at_ en cm rg st0 en0 lg tR ngR scR lnR uR lu ru su qu pl rv si D CR FR LF RF SF QF P vs tp st xa (va_A (wMr dA b tr hg wk at_ en cm rg st0 en0 lg tR ngR scR lnR uR lu ru su qu pl rv si D CR FR LF RF SF QF P (tl0 dA b vs tp)) sz)) 0 0 (va_A (wMr dA b tr hg wk at_ en cm rg st0 en0 lg tR ngR scR lnR uR lu ru su qu pl rv si D CR FR LF RF SF QF P (tl0 dA b vs tp)) sz) := by
  refine met_of (cc := prog_1_method_19_code) (maxL := 2) (ret := (some .int)) (Qc := qMr_push_R dC dI dA dS b tr hg wk at_ en cm rg st0 en0 lg tR ngR scR lnR uR lu ru su qu pl rv si D CR FR LF RF SF QF P vs tp st xa) (XC_ok dS) (by decide) rfl (Nat.le_of_ble_eq_true rfl) ?_
  intro p e s m below meth c ls A hx hb hr hml hown hts hlocks hnm hK hP hD hA hX hS hl
  have hl : lv_has ls 2 [(0, .ref b), (1, .ref (b + 7))] := hl
  have hown : s.vm.findClass "MacroReckoner" = some m.cls := hown
  obtain ⟨H, hH⟩ : ∃ H : Heap, H = s.heap := ⟨_, rfl⟩
  obtain ⟨locs, hlo⟩ : ∃ L : List Loc, L = [] := ⟨_, rfl⟩
  have hP : va_P (dC, dI) vwCl (wMr dA b tr hg wk at_ en cm rg st0 en0 lg tR ngR scR lnR uR lu ru su qu pl rv si D CR FR LF RF SF QF P (tl0 dA b vs tp)) H := hH ▸ hP
  have hS : va_S A s.heap H locs := by rw [hH, hlo]; exact hS
  suffices hgo : W p l e rmMr_push_R s m [.ref b, .ref (b + 7)].toArray below meth c H locs 0 0 (MQ below (qMr_push_R dC dI dA dS b tr hg wk at_ en cm rg st0 en0 lg tR ngR scR lnR uR lu ru su qu pl rv si D CR FR LF RF SF QF P vs tp st xa A) [.ref b, .ref (b + 7)].toArray s 0 0 A) (F0 m 0 ls []) by rw [hH, hlo] at hgo; exact hgo
  clear hH hlo
  obtain ⟨N9, hV9, hW9, ha1, ha2, ha3, ha4, ha5⟩ := hCR
  have hh := hCH.1
  refine lv_aload_n hx hb dMr_push_0 rfl (lv_at hl 0 rfl) ?_
  refine va_get (D := (dC, dI)) (ci := 6) (v := .int (iI hg)) (C := "MacroReckoner") (T := TMr) (N := 11) hx hb hts inMr hown hK hP 0 rfl rfl 5 (by decide) (hts _ wt1_178) (fun _ h9 => h9) rfl dMr_push_1 ?_
  refine lv_bipush (v := iI 20) hx hb dMr_push_4 (by decide) ?_
  refine iv_icmp_ne (tgt := 12) hx hb dMr_push_6 (by decide) ⟨by omega, by omega⟩ ⟨by decide, by decide⟩ (fun hc6 => ?_) (fun hc6 => ?_)
  · have hs9 := hCH.2.2.1 hg (by omega) (by omega)
    refine lv_aload_n hx hb dMr_push_12 rfl (lv_at hl 0 rfl) ?_
    refine va_get (D := (dC, dI)) (ci := 6) (v := .ref (b + 5)) (C := "MacroReckoner") (T := TMr) (N := 11) hx hb hts inMr hown hK hP 0 rfl rfl 4 (by decide) (hts _ wt1_177) (fun _ h9 => h9) rfl dMr_push_13 ?_
    refine lv_aload_n hx hb dMr_push_16 rfl (lv_at hl 0 rfl) ?_
    refine va_get (D := (dC, dI)) (ci := 6) (v := .int (iI hg)) (C := "MacroReckoner") (T := TMr) (N := 11) hx hb hts inMr hown hK hP 0 rfl rfl 5 (by decide) (hts _ wt1_178) (fun _ h9 => h9) rfl dMr_push_17 ?_
    refine iv_aald hx hb hK hP 5 4 rfl rfl (by decide) dMr_push_20 (by omega) (by omega) ?_
    refine W.eq (g2 := F0 m 21 ls [.ref (b + 38 + 4 * si hg)]) rfl ?_
    obtain ⟨a1, e_a1⟩ : ∃ z : Nat, z = b + 38 + 4 * si hg := ⟨_, rfl⟩
    rw [← e_a1]
    refine lv_aload_n hx hb dMr_push_21 rfl (lv_at hl 1 rfl) ?_
    obtain ⟨⟨tv, ngv, scv, lnv, uv, Cv, Fv⟩, e_vv⟩ : ∃ z : VS, z = vs (si hg) := ⟨_, rfl⟩
    have hP := va_P_pm (wMr_p (fV1 (dA := dA) (b := b) (vs := vs) (tp := tp) (k := si hg) (by omega))) hP
    have hD := va_D_pm (wMr_p (fV1 (dA := dA) (b := b) (vs := vs) (tp := tp) (k := si hg) (by omega))) hD
    rw [← e_vv, ← e_a1] at hP hD
    have hP : va_P (dC, dI) vwCl (wMr dA b tr hg wk at_ en cm rg st0 en0 lg tR ngR scR lnR uR lu ru su qu pl rv si D CR FR LF RF SF QF P (wVx dA a1 tv ngv scv lnv uv Cv Fv (tV1 dA b vs tp (si hg)))) H := hP
    have hD : va_D A (wMr dA b tr hg wk at_ en cm rg st0 en0 lg tR ngR scR lnR uR lu ru su qu pl rv si D CR FR LF RF SF QF P (wVx dA a1 tv ngv scv lnv uv Cv Fv (tV1 dA b vs tp (si hg)))) := hD
    refine cvT_v (we := wMr dA b tr hg wk at_ en cm rg st0 en0 lg tR ngR scR lnR uR lu ru su qu pl rv si D CR FR LF RF SF QF P (wVx dA a1 tv ngv scv lnv uv Cv Fv [])) (tl := tV1 dA b vs tp (si hg)) (va_runV (C := "MacroReckoner$Value") (As := [.ref (b + 7)]) (rest := []) ⟨hx, hb, hml, hown, hts⟩ (cVa_become l dC dI dA a1 (a1 + 1) (a1 + 3) tv ngv scv Cv lnv (a1 + 2) Fv uv (b + 7) (b + 8) (b + 10) tR ngR scR CR lnR (b + 9) FR uR N9 (by exact hV9) (by exact hW9) H.size) (cwV 1 hts (gdV wt3_40 wt3_41 wt3_42 wt1_4 wt3_43) rfl rfl rfl ⟨rfl, by decide, by decide, by decide +kernel⟩ ⟨by decide, by decide⟩) (preV (q := ("MacroReckoner$Value", TVa, 6)) hK hP hD hS hA XN_ok trivial [22, 25, 23, 24, 7, 10, 8, 9] rfl rfl 0 rfl rfl) rfl rfl hl.1 rfl (lv_room (Nat.le_of_ble_eq_true rfl)) dMr_push_22 ⟨Nat.zero_le _, Nat.zero_le _⟩) hP hD hS hA [22, 25, 23, 24, 7, 10, 8, 9] [0, 1, 2, 3, 4, 5, 6, 11, 12, 13, 14, 15, 16, 17, 18, 19, 20, 21] rfl (fun v_ => wMr dA b tr hg wk at_ en cm rg st0 en0 lg tR ngR scR lnR uR lu ru su qu pl rv si D CR FR LF RF SF QF P (wVx dA a1 tR ngR scR lnR uR v_.2 v_.1 [])) (fun _ => rfl) ((b, .inr (6, [.ref (b + 1), .ref (b + 3), .int (iI tr), .ref (b + 4), .ref (b + 5), .int (iI hg), .ref (b + 6), .int (iI wk), .ref (b + 7), .ref (b + 11), .ref (b + 20)])) :: (b + 1, .inr (2, [.ref (b + 2), .int (iI at_), .int (iI en)])) :: (b + 2, .inl (dA 1, 100, .inl (arI D))) :: (b + 3, .inl (dA 5, 8, .inr (.inr (.inr (.inr (arR (tfA b))))))) :: (b + 4, .inr (3, [.int (iI cm), .int (iI rg), rv, .int (iI st0), .int (iI en0), .int (iI lg)])) :: (b + 5, .inl (dA 4, 20, .inr (.inr (.inr (.inr (arR (sfA b si))))))) :: (b + 6, .inl (dA 4, 26, .inr (.inr (.inr (.inr (arR (rfA b))))))) :: (b + 11, .inr (0, [.ref (b + 7), .ref (b + 12), .ref (b + 14), .ref (b + 16), .ref (b + 18)])) :: (b + 12, .inr (5, [.ref (b + 13), .int (iI lu)])) :: (b + 13, .inl (dA 0, 32, .inl (arI LF))) :: (b + 14, .inr (5, [.ref (b + 15), .int (iI ru)])) :: (b + 15, .inl (dA 0, 32, .inl (arI RF))) :: (b + 16, .inr (5, [.ref (b + 17), .int (iI su)])) :: (b + 17, .inl (dA 0, 32, .inl (arI SF))) :: (b + 18, .inr (5, [.ref (b + 19), .int (iI qu)])) :: (b + 19, .inl (dA 0, 32, .inl (arI QF))) :: (b + 20, .inr (1, [.ref (b + 21), .int (iI pl)])) :: (b + 21, .inl (dA 1, 200, .inl (arI P))) :: []) rfl (fun _ => rfl) [b, b + 1, b + 2, b + 3, b + 4, b + 5, b + 6, b + 7, b + 8, b + 9, b + 10, b + 11, b + 12, b + 13, b + 14, b + 15, b + 16, b + 17, b + 18, b + 19, b + 20, b + 21, a1, a1 + 1, a1 + 2, a1 + 3] rfl (fun _ => rfl) (fun _ => rfl) (fun u_ H locs hq22 hP hD hS => ?_)
    obtain ⟨F1_22, C1_22⟩ := u_
    have hP : va_P (dC, dI) vwCl (wMr dA b tr hg wk at_ en cm rg st0 en0 lg tR ngR scR lnR uR lu ru su qu pl rv si D CR FR LF RF SF QF P (wVx dA a1 tR ngR scR lnR uR C1_22 F1_22 (tV1 dA b vs tp (si hg)))) H := hP
    have hD : va_D A (wMr dA b tr hg wk at_ en cm rg st0 en0 lg tR ngR scR lnR uR lu ru su qu pl rv si D CR FR LF RF SF QF P (wVx dA a1 tR ngR scR lnR uR C1_22 F1_22 (tV1 dA b vs tp (si hg)))) := hD
    have hq22 : WR F1_22 uR N9 ∧ ∀ j, 0 ≤ j → j < lnR → C1_22 j = CR j := hq22
    rw [e_a1] at hP hD
    have hP := va_P_pm (wMr_p (uV1 (dA := dA) (b := b) (vs := vs) (tp := tp) (k := si hg) (v := (tR, ngR, scR, lnR, uR, C1_22, F1_22)) (by omega))) hP
    have hD := va_D_pm (wMr_p (uV1 (dA := dA) (b := b) (vs := vs) (tp := tp) (k := si hg) (v := (tR, ngR, scR, lnR, uR, C1_22, F1_22)) (by omega))) hD
    have hP : va_P (dC, dI) vwCl (wMr dA b tr hg wk at_ en cm rg st0 en0 lg tR ngR scR lnR uR lu ru su qu pl rv si D CR FR LF RF SF QF P (tl0 dA b (upF vs (si hg) (tR, ngR, scR, lnR, uR, C1_22, F1_22)) tp)) H := hP
    have hD : va_D A (wMr dA b tr hg wk at_ en cm rg st0 en0 lg tR ngR scR lnR uR lu ru su qu pl rv si D CR FR LF RF SF QF P (tl0 dA b (upF vs (si hg) (tR, ngR, scR, lnR, uR, C1_22, F1_22)) tp)) := hD
    refine lv_aload_n hx hb dMr_push_25 rfl (lv_at hl 0 rfl) ?_
    refine lv_dup hx hb dMr_push_26 rfl ?_
    refine va_get (D := (dC, dI)) (ci := 6) (v := .int (iI hg)) (C := "MacroReckoner") (T := TMr) (N := 11) hx hb hts inMr hown hK hP 0 rfl rfl 5 (by decide) (hts _ wt1_178) (fun _ h9 => h9) rfl dMr_push_27 ?_
    refine lv_iconst (v := iI 1) hx hb dMr_push_30 rfl ?_
    refine iv_iadd hx hb dMr_push_31 ?_
    refine va_put (D := (dC, dI)) (ci := 6) (v := .int (iI (hg + 1))) (ty := .int) (C := "MacroReckoner") (T := TMr) (N := 11) hx hb hts inMr tyMr tyMr_ok nmMr hown hK hP hD hS 0 rfl rfl 5 (by decide) (hts _ wt1_178) (fun _ h9 => h9) rfl (by decide +kernel) rfl rfl (Nat.le_of_ble_eq_true rfl) dMr_push_32 (fun H locs hP hD hS => ?_)
    have hP : va_P (dC, dI) vwCl (wMr dA b tr (hg + 1) wk at_ en cm rg st0 en0 lg tR ngR scR lnR uR lu ru su qu pl rv si D CR FR LF RF SF QF P (tl0 dA b (upF vs (si hg) (tR, ngR, scR, lnR, uR, C1_22, F1_22)) tp)) H := hP
    have hD : va_D A (wMr dA b tr (hg + 1) wk at_ en cm rg st0 en0 lg tR ngR scR lnR uR lu ru su qu pl rv si D CR FR LF RF SF QF P (tl0 dA b (upF vs (si hg) (tR, ngR, scR, lnR, uR, C1_22, F1_22)) tp)) := hD
    refine lv_iconst (v := iI 0) hx hb dMr_push_35 rfl ?_
    exact rt_i hx hb hr hlocks hK hS dMr_push_36 (upF vs (si hg) (tR, ngR, scR, lnR, uR, C1_22, F1_22), hg + 1) hP hD (show 0 = (pushA st xa).1 ∧ CH si (upF vs (si hg) (tR, ngR, scR, lnR, uR, C1_22, F1_22)) (hg + 1) wk (pushA st xa).2 from by have h := CH_push hCH (CV_c hV9 ha1 ha2 ha3 ha4 ha5 hq22.1 hq22.2) (by omega); exact ⟨h.1.symm, h.2⟩)
  · refine lv_bipush (v := iI (-8)) hx hb dMr_push_9 (by decide) ?_
    exact rt_i hx hb hr hlocks hK hS dMr_push_11 (vs, hg) hP hD (show (-8) = (pushA st xa).1 ∧ CH si vs hg wk (pushA st xa).2 from by unfold pushA; rw [if_pos (by omega)]; exact ⟨rfl, hCH⟩)

abbrev qMr_push_P (dC : Nat → ClassId) (dI : Nat → Nat → Nat) (dA : Nat → ClassId) (dS : Nat → Nat) (b : Nat) (tr : Int) (hg : Int) (wk : Int) (at_ : Int) (en : Int) (cm : Int) (rg : Int) (st0 : Int) (en0 : Int) (lg : Int) (tR : Int) (ngR : Int) (scR : Int) (lnR : Int) (uR : Int) (lu : Int) (ru : Int) (su : Int) (qu : Int) (pl : Int) (rv : Value) (si : Int → Nat) (D : Int → Int) (CR : Int → Int) (FR : Int → Int) (LF : Int → Int) (RF : Int → Int) (SF : Int → Int) (QF : Int → Int) (P : Int → Int) (vs : Nat → VS) (tp : Nat → TS) (st : AS) (xa : Th) (kx : Nat) (A : Nat → Prop) : Array Value → State → Outcome → State → Prop := QI (dC, dI) vwCl (tyA dA) (fun (r : Int) (v_ : (Nat → VS) × Int) => r = (pushA st xa).1 ∧ CH si v_.1 v_.2 wk (pushA st xa).2) (fun (v_ : (Nat → VS) × Int) => wMr dA b tr v_.2 wk at_ en cm rg st0 en0 lg tR ngR scR lnR uR lu ru su qu pl rv si D CR FR LF RF SF QF P (tl0 dA b v_.1 tp)) A
abbrev rmMr_push_P : Room := { frames := 3, cells := 0, slots := 0, locals := 102 }
set_option maxRecDepth 100000 in
set_option maxHeartbeats 1000000 in
theorem cMr_push_P (l : Launch) (dC : Nat → ClassId) (dI : Nat → Nat → Nat) (dA : Nat → ClassId) (dS : Nat → Nat) (b : Nat) (tr : Int) (hg : Int) (wk : Int) (at_ : Int) (en : Int) (cm : Int) (rg : Int) (st0 : Int) (en0 : Int) (lg : Int) (tR : Int) (ngR : Int) (scR : Int) (lnR : Int) (uR : Int) (lu : Int) (ru : Int) (su : Int) (qu : Int) (pl : Int) (rv : Value) (si : Int → Nat) (D : Int → Int) (CR : Int → Int) (FR : Int → Int) (LF : Int → Int) (RF : Int → Int) (SF : Int → Int) (QF : Int → Int) (P : Int → Int) (vs : Nat → VS) (tp : Nat → TS) (st : AS) (xa : Th) (kx : Nat) (hCH : CH si vs hg wk st) (hkx : kx < 46 ∧ ∀ i, hg ≤ i → i < 20 → si i ≠ kx) (hCR : CV (vs kx) xa) (sz : Nat) : Met l yMr_push wsMr_push rmMr_push_P (PC (dC, dI) vwCl (tyA dA) (XC dS) [.ref b, .ref (b + 38 + 4 * kx)] (wMr dA b tr hg wk at_ en cm rg st0 en0 lg tR ngR scR lnR uR lu ru su qu pl rv si D CR FR LF RF SF QF P (tl0 dA b vs tp)) sz) (qMr_push_P dC dI dA dS b tr hg wk at_ en cm rg st0 en0 lg tR ngR scR lnR uR lu ru su qu pl rv si D CR FR LF RF SF QF P vs tp st xa kx (va_A (wMr dA b tr hg wk at_ en cm rg st0 en0 lg tR ngR scR lnR uR lu ru su qu pl rv si D CR FR LF RF SF QF P (tl0 dA b vs tp)) sz)) 0 0 (va_A (wMr dA b tr hg wk at_ en cm rg st0 en0 lg tR ngR scR lnR uR lu ru su qu pl rv si D CR FR LF RF SF QF P (tl0 dA b vs tp)) sz) := by
  refine met_of (cc := prog_1_method_19_code) (maxL := 2) (ret := (some .int)) (Qc := qMr_push_P dC dI dA dS b tr hg wk at_ en cm rg st0 en0 lg tR ngR scR lnR uR lu ru su qu pl rv si D CR FR LF RF SF QF P vs tp st xa kx) (XC_ok dS) (by decide) rfl (Nat.le_of_ble_eq_true rfl) ?_
  intro p e s m below meth c ls A hx hb hr hml hown hts hlocks hnm hK hP hD hA hX hS hl
  have hl : lv_has ls 2 [(0, .ref b), (1, .ref (b + 38 + 4 * kx))] := hl
  have hown : s.vm.findClass "MacroReckoner" = some m.cls := hown
  obtain ⟨H, hH⟩ : ∃ H : Heap, H = s.heap := ⟨_, rfl⟩
  obtain ⟨locs, hlo⟩ : ∃ L : List Loc, L = [] := ⟨_, rfl⟩
  have hP : va_P (dC, dI) vwCl (wMr dA b tr hg wk at_ en cm rg st0 en0 lg tR ngR scR lnR uR lu ru su qu pl rv si D CR FR LF RF SF QF P (tl0 dA b vs tp)) H := hH ▸ hP
  have hS : va_S A s.heap H locs := by rw [hH, hlo]; exact hS
  suffices hgo : W p l e rmMr_push_P s m [.ref b, .ref (b + 38 + 4 * kx)].toArray below meth c H locs 0 0 (MQ below (qMr_push_P dC dI dA dS b tr hg wk at_ en cm rg st0 en0 lg tR ngR scR lnR uR lu ru su qu pl rv si D CR FR LF RF SF QF P vs tp st xa kx A) [.ref b, .ref (b + 38 + 4 * kx)].toArray s 0 0 A) (F0 m 0 ls []) by rw [hH, hlo] at hgo; exact hgo
  clear hH hlo
  have hh := hCH.1
  refine lv_aload_n hx hb dMr_push_0 rfl (lv_at hl 0 rfl) ?_
  refine va_get (D := (dC, dI)) (ci := 6) (v := .int (iI hg)) (C := "MacroReckoner") (T := TMr) (N := 11) hx hb hts inMr hown hK hP 0 rfl rfl 5 (by decide) (hts _ wt1_178) (fun _ h9 => h9) rfl dMr_push_1 ?_
  refine lv_bipush (v := iI 20) hx hb dMr_push_4 (by decide) ?_
  refine iv_icmp_ne (tgt := 12) hx hb dMr_push_6 (by decide) ⟨by omega, by omega⟩ ⟨by decide, by decide⟩ (fun hc6 => ?_) (fun hc6 => ?_)
  · have hs9 := hCH.2.2.1 hg (by omega) (by omega)
    have hne := hkx.2 hg (by omega) (by omega)
    refine lv_aload_n hx hb dMr_push_12 rfl (lv_at hl 0 rfl) ?_
    refine va_get (D := (dC, dI)) (ci := 6) (v := .ref (b + 5)) (C := "MacroReckoner") (T := TMr) (N := 11) hx hb hts inMr hown hK hP 0 rfl rfl 4 (by decide) (hts _ wt1_177) (fun _ h9 => h9) rfl dMr_push_13 ?_
    refine lv_aload_n hx hb dMr_push_16 rfl (lv_at hl 0 rfl) ?_
    refine va_get (D := (dC, dI)) (ci := 6) (v := .int (iI hg)) (C := "MacroReckoner") (T := TMr) (N := 11) hx hb hts inMr hown hK hP 0 rfl rfl 5 (by decide) (hts _ wt1_178) (fun _ h9 => h9) rfl dMr_push_17 ?_
    refine iv_aald hx hb hK hP 5 4 rfl rfl (by decide) dMr_push_20 (by omega) (by omega) ?_
    refine W.eq (g2 := F0 m 21 ls [.ref (b + 38 + 4 * si hg)]) rfl ?_
    obtain ⟨a1, e_a1⟩ : ∃ z : Nat, z = b + 38 + 4 * si hg := ⟨_, rfl⟩
    rw [← e_a1]
    refine lv_aload_n hx hb dMr_push_21 rfl (lv_at hl 1 rfl) ?_
    obtain ⟨⟨tv, ngv, scv, lnv, uv, Cv, Fv⟩, e_vv⟩ : ∃ z : VS, z = vs (si hg) := ⟨_, rfl⟩
    obtain ⟨⟨tw, ngw, scw, lnw, uw, Cw, Fw⟩, e_vw⟩ : ∃ z : VS, z = vs kx := ⟨_, rfl⟩
    have hP := va_P_pm (wMr_p (fV2 (dA := dA) (b := b) (vs := vs) (tp := tp) (k := si hg) (j := kx) (by omega) hkx.1 hne)) hP
    have hD := va_D_pm (wMr_p (fV2 (dA := dA) (b := b) (vs := vs) (tp := tp) (k := si hg) (j := kx) (by omega) hkx.1 hne)) hD
    rw [← e_vv, ← e_vw, ← e_a1] at hP hD
    have hP : va_P (dC, dI) vwCl (wMr dA b tr hg wk at_ en cm rg st0 en0 lg tR ngR scR lnR uR lu ru su qu pl rv si D CR FR LF RF SF QF P (wVx dA a1 tv ngv scv lnv uv Cv Fv (wVx dA (b + 38 + 4 * kx) tw ngw scw lnw uw Cw Fw (tV2 dA b vs tp (si hg) kx)))) H := hP
    have hD : va_D A (wMr dA b tr hg wk at_ en cm rg st0 en0 lg tR ngR scR lnR uR lu ru su qu pl rv si D CR FR LF RF SF QF P (wVx dA a1 tv ngv scv lnv uv Cv Fv (wVx dA (b + 38 + 4 * kx) tw ngw scw lnw uw Cw Fw (tV2 dA b vs tp (si hg) kx)))) := hD
    rw [← e_vw] at hCR
    obtain ⟨N9, hV9, hW9, ha1, ha2, ha3, ha4, ha5⟩ := hCR
    refine cvT_v (we := wMr dA b tr hg wk at_ en cm rg st0 en0 lg tR ngR scR lnR uR lu ru su qu pl rv si D CR FR LF RF SF QF P (wVx dA a1 tv ngv scv lnv uv Cv Fv (wVx dA (b + 38 + 4 * kx) tw ngw scw lnw uw Cw Fw []))) (tl := tV2 dA b vs tp (si hg) kx) (va_runV (C := "MacroReckoner$Value") (As := [.ref (b + 38 + 4 * kx)]) (rest := []) ⟨hx, hb, hml, hown, hts⟩ (cVa_become l dC dI dA a1 (a1 + 1) (a1 + 3) tv ngv scv Cv lnv (a1 + 2) Fv uv (b + 38 + 4 * kx) ((b + 38 + 4 * kx) + 1) ((b + 38 + 4 * kx) + 3) tw ngw scw Cw lnw ((b + 38 + 4 * kx) + 2) Fw uw N9 (by exact hV9) (by exact hW9) H.size) (cwV 1 hts (gdV wt3_40 wt3_41 wt3_42 wt1_4 wt3_43) rfl rfl rfl ⟨rfl, by decide, by decide, by decide +kernel⟩ ⟨by decide, by decide⟩) (preV (q := ("MacroReckoner$Value", TVa, 6)) hK hP hD hS hA XN_ok trivial [22, 25, 23, 24, 26, 29, 27, 28] rfl rfl 0 rfl rfl) rfl rfl hl.1 rfl (lv_room (Nat.le_of_ble_eq_true rfl)) dMr_push_22 ⟨Nat.zero_le _, Nat.zero_le _⟩) hP hD hS hA [22, 25, 23, 24, 26, 29, 27, 28] [0, 1, 2, 3, 4, 5, 6, 7, 8, 9, 10, 11, 12, 13, 14, 15, 16, 17, 18, 19, 20, 21] rfl (fun v_ => wMr dA b tr hg wk at_ en cm rg st0 en0 lg tR ngR scR lnR uR lu ru su qu pl rv si D CR FR LF RF SF QF P (wVx dA a1 tw ngw scw lnw uw v_.2 v_.1 (wVx dA (b + 38 + 4 * kx) tw ngw scw lnw uw Cw Fw []))) (fun _ => rfl) (wMr dA b tr hg wk at_ en cm rg st0 en0 lg tR ngR scR lnR uR lu ru su qu pl rv si D CR FR LF RF SF QF P []) rfl (fun _ => rfl) [b, b + 1, b + 2, b + 3, b + 4, b + 5, b + 6, b + 7, b + 8, b + 9, b + 10, b + 11, b + 12, b + 13, b + 14, b + 15, b + 16, b + 17, b + 18, b + 19, b + 20, b + 21, a1, a1 + 1, a1 + 2, a1 + 3, (b + 38 + 4 * kx), (b + 38 + 4 * kx) + 1, (b + 38 + 4 * kx) + 2, (b + 38 + 4 * kx) + 3] rfl (fun _ => rfl) (fun _ => rfl) (fun u_ H locs hq22 hP hD hS => ?_)
    obtain ⟨F1_22, C1_22⟩ := u_
    have hP : va_P (dC, dI) vwCl (wMr dA b tr hg wk at_ en cm rg st0 en0 lg tR ngR scR lnR uR lu ru su qu pl rv si D CR FR LF RF SF QF P (wVx dA a1 tw ngw scw lnw uw C1_22 F1_22 (wVx dA (b + 38 + 4 * kx) tw ngw scw lnw uw Cw Fw (tV2 dA b vs tp (si hg) kx)))) H := hP
    have hD : va_D A (wMr dA b tr hg wk at_ en cm rg st0 en0 lg tR ngR scR lnR uR lu ru su qu pl rv si D CR FR LF RF SF QF P (wVx dA a1 tw ngw scw lnw uw C1_22 F1_22 (wVx dA (b + 38 + 4 * kx) tw ngw scw lnw uw Cw Fw (tV2 dA b vs tp (si hg) kx)))) := hD
    have hq22 : WR F1_22 uw N9 ∧ ∀ j, 0 ≤ j → j < lnw → C1_22 j = Cw j := hq22
    rw [e_a1] at hP hD
    have hP := va_P_pm (wMr_p (uV2 (dA := dA) (b := b) (vs := vs) (tp := tp) (k := si hg) (j := kx) (v := (tw, ngw, scw, lnw, uw, C1_22, F1_22)) (w := (tw, ngw, scw, lnw, uw, Cw, Fw)) (by omega) hkx.1 hne)) hP
    have hD := va_D_pm (wMr_p (uV2 (dA := dA) (b := b) (vs := vs) (tp := tp) (k := si hg) (j := kx) (v := (tw, ngw, scw, lnw, uw, C1_22, F1_22)) (w := (tw, ngw, scw, lnw, uw, Cw, Fw)) (by omega) hkx.1 hne)) hD
    rw [upF_id2 hne e_vw] at hP hD
    have hP : va_P (dC, dI) vwCl (wMr dA b tr hg wk at_ en cm rg st0 en0 lg tR ngR scR lnR uR lu ru su qu pl rv si D CR FR LF RF SF QF P (tl0 dA b (upF vs (si hg) (tw, ngw, scw, lnw, uw, C1_22, F1_22)) tp)) H := hP
    have hD : va_D A (wMr dA b tr hg wk at_ en cm rg st0 en0 lg tR ngR scR lnR uR lu ru su qu pl rv si D CR FR LF RF SF QF P (tl0 dA b (upF vs (si hg) (tw, ngw, scw, lnw, uw, C1_22, F1_22)) tp)) := hD
    refine lv_aload_n hx hb dMr_push_25 rfl (lv_at hl 0 rfl) ?_
    refine lv_dup hx hb dMr_push_26 rfl ?_
    refine va_get (D := (dC, dI)) (ci := 6) (v := .int (iI hg)) (C := "MacroReckoner") (T := TMr) (N := 11) hx hb hts inMr hown hK hP 0 rfl rfl 5 (by decide) (hts _ wt1_178) (fun _ h9 => h9) rfl dMr_push_27 ?_
    refine lv_iconst (v := iI 1) hx hb dMr_push_30 rfl ?_
    refine iv_iadd hx hb dMr_push_31 ?_
    refine va_put (D := (dC, dI)) (ci := 6) (v := .int (iI (hg + 1))) (ty := .int) (C := "MacroReckoner") (T := TMr) (N := 11) hx hb hts inMr tyMr tyMr_ok nmMr hown hK hP hD hS 0 rfl rfl 5 (by decide) (hts _ wt1_178) (fun _ h9 => h9) rfl (by decide +kernel) rfl rfl (Nat.le_of_ble_eq_true rfl) dMr_push_32 (fun H locs hP hD hS => ?_)
    have hP : va_P (dC, dI) vwCl (wMr dA b tr (hg + 1) wk at_ en cm rg st0 en0 lg tR ngR scR lnR uR lu ru su qu pl rv si D CR FR LF RF SF QF P (tl0 dA b (upF vs (si hg) (tw, ngw, scw, lnw, uw, C1_22, F1_22)) tp)) H := hP
    have hD : va_D A (wMr dA b tr (hg + 1) wk at_ en cm rg st0 en0 lg tR ngR scR lnR uR lu ru su qu pl rv si D CR FR LF RF SF QF P (tl0 dA b (upF vs (si hg) (tw, ngw, scw, lnw, uw, C1_22, F1_22)) tp)) := hD
    refine lv_iconst (v := iI 0) hx hb dMr_push_35 rfl ?_
    exact rt_i hx hb hr hlocks hK hS dMr_push_36 (upF vs (si hg) (tw, ngw, scw, lnw, uw, C1_22, F1_22), hg + 1) hP hD (show 0 = (pushA st xa).1 ∧ CH si (upF vs (si hg) (tw, ngw, scw, lnw, uw, C1_22, F1_22)) (hg + 1) wk (pushA st xa).2 from by have h := CH_push hCH (CV_c hV9 ha1 ha2 ha3 ha4 ha5 hq22.1 hq22.2) (by omega); exact ⟨h.1.symm, h.2⟩)
  · refine lv_bipush (v := iI (-8)) hx hb dMr_push_9 (by decide) ?_
    exact rt_i hx hb hr hlocks hK hS dMr_push_11 (vs, hg) hP hD (show (-8) = (pushA st xa).1 ∧ CH si vs hg wk (pushA st xa).2 from by unfold pushA; rw [if_pos (by omega)]; exact ⟨rfl, hCH⟩)

theorem dMr_pushCount_0 : decode prog_1_method_22_code 0 = .ok (.aload_n 0, 1) := by decide +kernel
theorem dMr_pushCount_1 : decode prog_1_method_22_code 1 = .ok (.getfield 49, 3) := by decide +kernel
theorem dMr_pushCount_4 : decode prog_1_method_22_code 4 = .ok (.iload_n 1, 1) := by decide +kernel
theorem dMr_pushCount_5 : decode prog_1_method_22_code 5 = .ok (.invokevirtual 223, 3) := by decide +kernel
theorem dMr_pushCount_8 : decode prog_1_method_22_code 8 = .ok (.aload_n 0, 1) := by decide +kernel
theorem dMr_pushCount_9 : decode prog_1_method_22_code 9 = .ok (.aload_n 0, 1) := by decide +kernel
theorem dMr_pushCount_10 : decode prog_1_method_22_code 10 = .ok (.getfield 49, 3) := by decide +kernel
theorem dMr_pushCount_13 : decode prog_1_method_22_code 13 = .ok (.invokevirtual 161, 3) := by decide +kernel
theorem dMr_pushCount_16 : decode prog_1_method_22_code 16 = .ok (.ireturn, 1) := by decide +kernel
abbrev qMr_pushCount (dC : Nat → ClassId) (dI : Nat → Nat → Nat) (dA : Nat → ClassId) (dS : Nat → Nat) (b : Nat) (tr : Int) (hg : Int) (wk : Int) (at_ : Int) (en : Int) (cm : Int) (rg : Int) (st0 : Int) (en0 : Int) (lg : Int) (tR : Int) (ngR : Int) (scR : Int) (lnR : Int) (uR : Int) (lu : Int) (ru : Int) (su : Int) (qu : Int) (pl : Int) (rv : Value) (si : Int → Nat) (D : Int → Int) (CR : Int → Int) (FR : Int → Int) (LF : Int → Int) (RF : Int → Int) (SF : Int → Int) (QF : Int → Int) (P : Int → Int) (vs : Nat → VS) (tp : Nat → TS) (st : AS) (k0 : Int) (A : Nat → Prop) : Array Value → State → Outcome → State → Prop := QI (dC, dI) vwCl (tyA dA) (fun (r : Int) (v_ : (Nat → VS) × Int × (Int → Int) × Int) => r = (pushA st (mkN k0 0)).1 ∧ CH si v_.1 v_.2.1 wk (pushA st (mkN k0 0)).2) (fun (v_ : (Nat → VS) × Int × (Int → Int) × Int) => wMr dA b tr v_.2.1 wk at_ en cm rg st0 en0 lg 0 0 0 0 v_.2.2.2 lu ru su qu pl rv si D CR v_.2.2.1 LF RF SF QF P (tl0 dA b v_.1 tp)) A
abbrev rmMr_pushCount : Room := { frames := 4, cells := 0, slots := 0, locals := 123 }
set_option maxRecDepth 100000 in
set_option maxHeartbeats 1000000 in
theorem cMr_pushCount (l : Launch) (dC : Nat → ClassId) (dI : Nat → Nat → Nat) (dA : Nat → ClassId) (dS : Nat → Nat) (b : Nat) (tr : Int) (hg : Int) (wk : Int) (at_ : Int) (en : Int) (cm : Int) (rg : Int) (st0 : Int) (en0 : Int) (lg : Int) (tR : Int) (ngR : Int) (scR : Int) (lnR : Int) (uR : Int) (lu : Int) (ru : Int) (su : Int) (qu : Int) (pl : Int) (rv : Value) (si : Int → Nat) (D : Int → Int) (CR : Int → Int) (FR : Int → Int) (LF : Int → Int) (RF : Int → Int) (SF : Int → Int) (QF : Int → Int) (P : Int → Int) (vs : Nat → VS) (tp : Nat → TS) (st : AS) (k0 : Int) (hCH : CH si vs hg wk st) (hk0 : 0 ≤ k0 ∧ k0 < 1000000000) (sz : Nat) : Met l yMr_pushCount wsMr_pushCount rmMr_pushCount (PC (dC, dI) vwCl (tyA dA) (XC dS) [.ref b, .int (iI k0)] (wMr dA b tr hg wk at_ en cm rg st0 en0 lg tR ngR scR lnR uR lu ru su qu pl rv si D CR FR LF RF SF QF P (tl0 dA b vs tp)) sz) (qMr_pushCount dC dI dA dS b tr hg wk at_ en cm rg st0 en0 lg tR ngR scR lnR uR lu ru su qu pl rv si D CR FR LF RF SF QF P vs tp st k0 (va_A (wMr dA b tr hg wk at_ en cm rg st0 en0 lg tR ngR scR lnR uR lu ru su qu pl rv si D CR FR LF RF SF QF P (tl0 dA b vs tp)) sz)) 0 0 (va_A (wMr dA b tr hg wk at_ en cm rg st0 en0 lg tR ngR scR lnR uR lu ru su qu pl rv si D CR FR LF RF SF QF P (tl0 dA b vs tp)) sz) := by
  refine met_of (cc := prog_1_method_22_code) (maxL := 2) (ret := (some .int)) (Qc := qMr_pushCount dC dI dA dS b tr hg wk at_ en cm rg st0 en0 lg tR ngR scR lnR uR lu ru su qu pl rv si D CR FR LF RF SF QF P vs tp st k0) (XC_ok dS) (by decide) rfl (Nat.le_of_ble_eq_true rfl) ?_
  intro p e s m below meth c ls A hx hb hr hml hown hts hlocks hnm hK hP hD hA hX hS hl
  have hl : lv_has ls 2 [(0, .ref b), (1, .int (iI k0))] := hl
  have hown : s.vm.findClass "MacroReckoner" = some m.cls := hown
  obtain ⟨H, hH⟩ : ∃ H : Heap, H = s.heap := ⟨_, rfl⟩
  obtain ⟨locs, hlo⟩ : ∃ L : List Loc, L = [] := ⟨_, rfl⟩
  have hP : va_P (dC, dI) vwCl (wMr dA b tr hg wk at_ en cm rg st0 en0 lg tR ngR scR lnR uR lu ru su qu pl rv si D CR FR LF RF SF QF P (tl0 dA b vs tp)) H := hH ▸ hP
  have hS : va_S A s.heap H locs := by rw [hH, hlo]; exact hS
  suffices hgo : W p l e rmMr_pushCount s m [.ref b, .int (iI k0)].toArray below meth c H locs 0 0 (MQ below (qMr_pushCount dC dI dA dS b tr hg wk at_ en cm rg st0 en0 lg tR ngR scR lnR uR lu ru su qu pl rv si D CR FR LF RF SF QF P vs tp st k0 A) [.ref b, .int (iI k0)].toArray s 0 0 A) (F0 m 0 ls []) by rw [hH, hlo] at hgo; exact hgo
  clear hH hlo
  refine lv_aload_n hx hb dMr_pushCount_0 rfl (lv_at hl 0 rfl) ?_
  refine va_get (D := (dC, dI)) (ci := 6) (v := .ref (b + 7)) (C := "MacroReckoner") (T := TMr) (N := 11) hx hb hts inMr hown hK hP 0 rfl rfl 8 (by decide) (hts _ wt1_181) (fun _ h9 => h9) rfl dMr_pushCount_1 ?_
  refine lv_iload_n hx hb dMr_pushCount_4 rfl (lv_at hl 1 rfl) ?_
  refine cvT_v (we := wMr dA b tr hg wk at_ en cm rg st0 en0 lg tR ngR scR lnR uR lu ru su qu pl rv si D CR FR LF RF SF QF P []) (tl := tl0 dA b vs tp) (va_runV (C := "MacroReckoner$Value") (As := [.int (iI k0)]) (rest := []) ⟨hx, hb, hml, hown, hts⟩ (cVa_becomeCount l dC dI dA (b + 7) (b + 8) (b + 10) tR ngR scR CR lnR (b + 9) FR uR k0 (by exact hk0) H.size) (cwV 1 hts (gdV wt3_198 wt3_10 wt3_11 wt1_4 wt3_12) rfl rfl rfl ⟨rfl, by decide, by decide, by decide +kernel⟩ ⟨by decide, by decide⟩) (preV (q := ("MacroReckoner$Value", TVa, 6)) hK hP hD hS hA XN_ok trivial [7, 10, 8, 9] rfl rfl 0 rfl rfl) rfl rfl hl.1 rfl (lv_room (Nat.le_of_ble_eq_true rfl)) dMr_pushCount_5 ⟨Nat.zero_le _, Nat.zero_le _⟩) hP hD hS hA [7, 10, 8, 9] [0, 1, 2, 3, 4, 5, 6, 11, 12, 13, 14, 15, 16, 17, 18, 19, 20, 21] rfl (fun v_ => wMr dA b tr hg wk at_ en cm rg st0 en0 lg 0 0 0 0 v_.2 lu ru su qu pl rv si D CR v_.1 LF RF SF QF P []) (fun _ => rfl) ((b, .inr (6, [.ref (b + 1), .ref (b + 3), .int (iI tr), .ref (b + 4), .ref (b + 5), .int (iI hg), .ref (b + 6), .int (iI wk), .ref (b + 7), .ref (b + 11), .ref (b + 20)])) :: (b + 1, .inr (2, [.ref (b + 2), .int (iI at_), .int (iI en)])) :: (b + 2, .inl (dA 1, 100, .inl (arI D))) :: (b + 3, .inl (dA 5, 8, .inr (.inr (.inr (.inr (arR (tfA b))))))) :: (b + 4, .inr (3, [.int (iI cm), .int (iI rg), rv, .int (iI st0), .int (iI en0), .int (iI lg)])) :: (b + 5, .inl (dA 4, 20, .inr (.inr (.inr (.inr (arR (sfA b si))))))) :: (b + 6, .inl (dA 4, 26, .inr (.inr (.inr (.inr (arR (rfA b))))))) :: (b + 11, .inr (0, [.ref (b + 7), .ref (b + 12), .ref (b + 14), .ref (b + 16), .ref (b + 18)])) :: (b + 12, .inr (5, [.ref (b + 13), .int (iI lu)])) :: (b + 13, .inl (dA 0, 32, .inl (arI LF))) :: (b + 14, .inr (5, [.ref (b + 15), .int (iI ru)])) :: (b + 15, .inl (dA 0, 32, .inl (arI RF))) :: (b + 16, .inr (5, [.ref (b + 17), .int (iI su)])) :: (b + 17, .inl (dA 0, 32, .inl (arI SF))) :: (b + 18, .inr (5, [.ref (b + 19), .int (iI qu)])) :: (b + 19, .inl (dA 0, 32, .inl (arI QF))) :: (b + 20, .inr (1, [.ref (b + 21), .int (iI pl)])) :: (b + 21, .inl (dA 1, 200, .inl (arI P))) :: []) rfl (fun _ => rfl) [b, b + 1, b + 2, b + 3, b + 4, b + 5, b + 6, b + 7, b + 8, b + 9, b + 10, b + 11, b + 12, b + 13, b + 14, b + 15, b + 16, b + 17, b + 18, b + 19, b + 20, b + 21] rfl (fun _ => rfl) (fun _ => rfl) (fun u_ H locs hq5 hP hD hS => ?_)
  obtain ⟨FR9, uR9⟩ := u_
  have hP : va_P (dC, dI) vwCl (wMr dA b tr hg wk at_ en cm rg st0 en0 lg 0 0 0 0 uR9 lu ru su qu pl rv si D CR FR9 LF RF SF QF P (tl0 dA b vs tp)) H := hP
  have hD : va_D A (wMr dA b tr hg wk at_ en cm rg st0 en0 lg 0 0 0 0 uR9 lu ru su qu pl rv si D CR FR9 LF RF SF QF P (tl0 dA b vs tp)) := hD
  have hq5 : WR FR9 uR9 k0 := hq5
  refine lv_aload_n hx hb dMr_pushCount_8 rfl (lv_at hl 0 rfl) ?_
  refine lv_aload_n hx hb dMr_pushCount_9 rfl (lv_at hl 0 rfl) ?_
  refine va_get (D := (dC, dI)) (ci := 6) (v := .ref (b + 7)) (C := "MacroReckoner") (T := TMr) (N := 11) hx hb hts inMr hown hK hP 0 rfl rfl 8 (by decide) (hts _ wt1_181) (fun _ h9 => h9) rfl dMr_pushCount_10 ?_
  refine cvA_i (va_runV (C := "MacroReckoner") (As := [.ref (b + 7)]) (rest := []) ⟨hx, hb, hml, hown, hts⟩ (cMr_push_R l dC dI dA dS b tr hg wk at_ en cm rg st0 en0 lg 0 0 0 0 uR9 lu ru su qu pl rv si D CR FR9 LF RF SF QF P vs tp st (mkN k0 0) (by exact hCH) (by exact CV_count hq5 hk0) H.size) (cwV 1 hts (gdV wt3_36 wt3_38 ws1_12 wt1_1 wt3_39) rfl rfl rfl ⟨rfl, by decide, by decide, by decide +kernel⟩ ⟨by decide, by decide⟩) (preVA (q := ("MacroReckoner", TMr, 11)) hK hP hD hS hA (XC_ok dS) hX 0 rfl rfl) rfl rfl hl.1 rfl (lv_room (Nat.le_of_ble_eq_true rfl)) dMr_pushCount_13 ⟨Nat.zero_le _, Nat.zero_le _⟩) hD hS hA (fun r13 u_ H locs hq13 hP hD hS => ?_)
  obtain ⟨vs1_13, hg1_13⟩ := u_
  have hP : va_P (dC, dI) vwCl (wMr dA b tr hg1_13 wk at_ en cm rg st0 en0 lg 0 0 0 0 uR9 lu ru su qu pl ((rv)) si D CR FR9 LF RF SF QF P (tl0 dA b vs1_13 tp)) H := hP
  have hD : va_D A (wMr dA b tr hg1_13 wk at_ en cm rg st0 en0 lg 0 0 0 0 uR9 lu ru su qu pl ((rv)) si D CR FR9 LF RF SF QF P (tl0 dA b vs1_13 tp)) := hD
  have hq13 : r13 = (pushA st (mkN k0 0)).1 ∧ CH si vs1_13 hg1_13 wk (pushA st (mkN k0 0)).2 := hq13
  exact rt_i hx hb hr hlocks hK hS dMr_pushCount_16 (vs1_13, hg1_13, FR9, uR9) hP hD (show r13 = (pushA st (mkN k0 0)).1 ∧ CH si vs1_13 hg1_13 wk (pushA st (mkN k0 0)).2 from by exact hq13)

theorem dMr_clearStack_0 : decode prog_1_method_26_code 0 = .ok (.aload_n 0, 1) := by decide +kernel
theorem dMr_clearStack_1 : decode prog_1_method_26_code 1 = .ok (.iconst 0, 1) := by decide +kernel
theorem dMr_clearStack_2 : decode prog_1_method_26_code 2 = .ok (.putfield 39, 3) := by decide +kernel
theorem dMr_clearStack_5 : decode prog_1_method_26_code 5 = .ok (.iconst 0, 1) := by decide +kernel
theorem dMr_clearStack_6 : decode prog_1_method_26_code 6 = .ok (.ireturn, 1) := by decide +kernel
abbrev qMr_clearStack (dC : Nat → ClassId) (dI : Nat → Nat → Nat) (dA : Nat → ClassId) (dS : Nat → Nat) (b : Nat) (tr : Int) (hg : Int) (wk : Int) (at_ : Int) (en : Int) (cm : Int) (rg : Int) (st0 : Int) (en0 : Int) (lg : Int) (tR : Int) (ngR : Int) (scR : Int) (lnR : Int) (uR : Int) (lu : Int) (ru : Int) (su : Int) (qu : Int) (pl : Int) (rv : Value) (si : Int → Nat) (D : Int → Int) (CR : Int → Int) (FR : Int → Int) (LF : Int → Int) (RF : Int → Int) (SF : Int → Int) (QF : Int → Int) (P : Int → Int) (vs : Nat → VS) (tp : Nat → TS) (A : Nat → Prop) : Array Value → State → Outcome → State → Prop := QI (dC, dI) vwCl (tyA dA) (fun (r : Int) (v_ : Unit) => r = 0) (fun (v_ : Unit) => wMr dA b tr 0 wk at_ en cm rg st0 en0 lg tR ngR scR lnR uR lu ru su qu pl rv si D CR FR LF RF SF QF P (tl0 dA b vs tp)) A
abbrev rmMr_clearStack : Room := { frames := 0, cells := 0, slots := 0, locals := 0 }
set_option maxRecDepth 100000 in
set_option maxHeartbeats 1000000 in
theorem cMr_clearStack (l : Launch) (dC : Nat → ClassId) (dI : Nat → Nat → Nat) (dA : Nat → ClassId) (dS : Nat → Nat) (b : Nat) (tr : Int) (hg : Int) (wk : Int) (at_ : Int) (en : Int) (cm : Int) (rg : Int) (st0 : Int) (en0 : Int) (lg : Int) (tR : Int) (ngR : Int) (scR : Int) (lnR : Int) (uR : Int) (lu : Int) (ru : Int) (su : Int) (qu : Int) (pl : Int) (rv : Value) (si : Int → Nat) (D : Int → Int) (CR : Int → Int) (FR : Int → Int) (LF : Int → Int) (RF : Int → Int) (SF : Int → Int) (QF : Int → Int) (P : Int → Int) (vs : Nat → VS) (tp : Nat → TS)  (sz : Nat) : Met l yMr_clearStack wsMr_clearStack rmMr_clearStack (PC (dC, dI) vwCl (tyA dA) (XC dS) [.ref b] (wMr dA b tr hg wk at_ en cm rg st0 en0 lg tR ngR scR lnR uR lu ru su qu pl rv si D CR FR LF RF SF QF P (tl0 dA b vs tp)) sz) (qMr_clearStack dC dI dA dS b tr hg wk at_ en cm rg st0 en0 lg tR ngR scR lnR uR lu ru su qu pl rv si D CR FR LF RF SF QF P vs tp (va_A (wMr dA b tr hg wk at_ en cm rg st0 en0 lg tR ngR scR lnR uR lu ru su qu pl rv si D CR FR LF RF SF QF P (tl0 dA b vs tp)) sz)) 0 0 (va_A (wMr dA b tr hg wk at_ en cm rg st0 en0 lg tR ngR scR lnR uR lu ru su qu pl rv si D CR FR LF RF SF QF P (tl0 dA b vs tp)) sz) := by
  refine met_of (cc := prog_1_method_26_code) (maxL := 1) (ret := (some .int)) (Qc := qMr_clearStack dC dI dA dS b tr hg wk at_ en cm rg st0 en0 lg tR ngR scR lnR uR lu ru su qu pl rv si D CR FR LF RF SF QF P vs tp) (XC_ok dS) (by decide) rfl (Nat.le_of_ble_eq_true rfl) ?_
  intro p e s m below meth c ls A hx hb hr hml hown hts hlocks hnm hK hP hD hA hX hS hl
  have hl : lv_has ls 1 [(0, .ref b)] := hl
  have hown : s.vm.findClass "MacroReckoner" = some m.cls := hown
  obtain ⟨H, hH⟩ : ∃ H : Heap, H = s.heap := ⟨_, rfl⟩
  obtain ⟨locs, hlo⟩ : ∃ L : List Loc, L = [] := ⟨_, rfl⟩
  have hP : va_P (dC, dI) vwCl (wMr dA b tr hg wk at_ en cm rg st0 en0 lg tR ngR scR lnR uR lu ru su qu pl rv si D CR FR LF RF SF QF P (tl0 dA b vs tp)) H := hH ▸ hP
  have hS : va_S A s.heap H locs := by rw [hH, hlo]; exact hS
  suffices hgo : W p l e rmMr_clearStack s m [.ref b].toArray below meth c H locs 0 0 (MQ below (qMr_clearStack dC dI dA dS b tr hg wk at_ en cm rg st0 en0 lg tR ngR scR lnR uR lu ru su qu pl rv si D CR FR LF RF SF QF P vs tp A) [.ref b].toArray s 0 0 A) (F0 m 0 ls []) by rw [hH, hlo] at hgo; exact hgo
  clear hH hlo
  refine lv_aload_n hx hb dMr_clearStack_0 rfl (lv_at hl 0 rfl) ?_
  refine lv_iconst (v := iI 0) hx hb dMr_clearStack_1 rfl ?_
  refine va_put (D := (dC, dI)) (ci := 6) (v := .int (iI 0)) (ty := .int) (C := "MacroReckoner") (T := TMr) (N := 11) hx hb hts inMr tyMr tyMr_ok nmMr hown hK hP hD hS 0 rfl rfl 5 (by decide) (hts _ wt1_178) (fun _ h9 => h9) rfl (by decide +kernel) rfl rfl (Nat.le_of_ble_eq_true rfl) dMr_clearStack_2 (fun H locs hP hD hS => ?_)
  have hP : va_P (dC, dI) vwCl (wMr dA b tr 0 wk at_ en cm rg st0 en0 lg tR ngR scR lnR uR lu ru su qu pl rv si D CR FR LF RF SF QF P (tl0 dA b vs tp)) H := hP
  have hD : va_D A (wMr dA b tr 0 wk at_ en cm rg st0 en0 lg tR ngR scR lnR uR lu ru su qu pl rv si D CR FR LF RF SF QF P (tl0 dA b vs tp)) := hD
  refine lv_iconst (v := iI 0) hx hb dMr_clearStack_5 rfl ?_
  exact rt_i hx hb hr hlocks hK hS dMr_clearStack_6 () hP hD (show 0 = 0 from by rfl)

theorem dMr_endTexts_0 : decode prog_1_method_36_code 0 = .ok (.aload_n 0, 1) := by decide +kernel
theorem dMr_endTexts_1 : decode prog_1_method_36_code 1 = .ok (.iconst 0, 1) := by decide +kernel
theorem dMr_endTexts_2 : decode prog_1_method_36_code 2 = .ok (.putfield 22, 3) := by decide +kernel
theorem dMr_endTexts_5 : decode prog_1_method_36_code 5 = .ok (.iconst 0, 1) := by decide +kernel
theorem dMr_endTexts_6 : decode prog_1_method_36_code 6 = .ok (.ireturn, 1) := by decide +kernel
abbrev qMr_endTexts (dC : Nat → ClassId) (dI : Nat → Nat → Nat) (dA : Nat → ClassId) (dS : Nat → Nat) (b : Nat) (tr : Int) (hg : Int) (wk : Int) (at_ : Int) (en : Int) (cm : Int) (rg : Int) (st0 : Int) (en0 : Int) (lg : Int) (tR : Int) (ngR : Int) (scR : Int) (lnR : Int) (uR : Int) (lu : Int) (ru : Int) (su : Int) (qu : Int) (pl : Int) (rv : Value) (si : Int → Nat) (D : Int → Int) (CR : Int → Int) (FR : Int → Int) (LF : Int → Int) (RF : Int → Int) (SF : Int → Int) (QF : Int → Int) (P : Int → Int) (vs : Nat → VS) (tp : Nat → TS) (A : Nat → Prop) : Array Value → State → Outcome → State → Prop := QI (dC, dI) vwCl (tyA dA) (fun (r : Int) (v_ : Unit) => r = 0) (fun (v_ : Unit) => wMr dA b 0 hg wk at_ en cm rg st0 en0 lg tR ngR scR lnR uR lu ru su qu pl rv si D CR FR LF RF SF QF P (tl0 dA b vs tp)) A
abbrev rmMr_endTexts : Room := { frames := 0, cells := 0, slots := 0, locals := 0 }
set_option maxRecDepth 100000 in
set_option maxHeartbeats 1000000 in
theorem cMr_endTexts (l : Launch) (dC : Nat → ClassId) (dI : Nat → Nat → Nat) (dA : Nat → ClassId) (dS : Nat → Nat) (b : Nat) (tr : Int) (hg : Int) (wk : Int) (at_ : Int) (en : Int) (cm : Int) (rg : Int) (st0 : Int) (en0 : Int) (lg : Int) (tR : Int) (ngR : Int) (scR : Int) (lnR : Int) (uR : Int) (lu : Int) (ru : Int) (su : Int) (qu : Int) (pl : Int) (rv : Value) (si : Int → Nat) (D : Int → Int) (CR : Int → Int) (FR : Int → Int) (LF : Int → Int) (RF : Int → Int) (SF : Int → Int) (QF : Int → Int) (P : Int → Int) (vs : Nat → VS) (tp : Nat → TS)  (sz : Nat) : Met l yMr_endTexts wsMr_endTexts rmMr_endTexts (PC (dC, dI) vwCl (tyA dA) (XC dS) [.ref b] (wMr dA b tr hg wk at_ en cm rg st0 en0 lg tR ngR scR lnR uR lu ru su qu pl rv si D CR FR LF RF SF QF P (tl0 dA b vs tp)) sz) (qMr_endTexts dC dI dA dS b tr hg wk at_ en cm rg st0 en0 lg tR ngR scR lnR uR lu ru su qu pl rv si D CR FR LF RF SF QF P vs tp (va_A (wMr dA b tr hg wk at_ en cm rg st0 en0 lg tR ngR scR lnR uR lu ru su qu pl rv si D CR FR LF RF SF QF P (tl0 dA b vs tp)) sz)) 0 0 (va_A (wMr dA b tr hg wk at_ en cm rg st0 en0 lg tR ngR scR lnR uR lu ru su qu pl rv si D CR FR LF RF SF QF P (tl0 dA b vs tp)) sz) := by
  refine met_of (cc := prog_1_method_36_code) (maxL := 1) (ret := (some .int)) (Qc := qMr_endTexts dC dI dA dS b tr hg wk at_ en cm rg st0 en0 lg tR ngR scR lnR uR lu ru su qu pl rv si D CR FR LF RF SF QF P vs tp) (XC_ok dS) (by decide) rfl (Nat.le_of_ble_eq_true rfl) ?_
  intro p e s m below meth c ls A hx hb hr hml hown hts hlocks hnm hK hP hD hA hX hS hl
  have hl : lv_has ls 1 [(0, .ref b)] := hl
  have hown : s.vm.findClass "MacroReckoner" = some m.cls := hown
  obtain ⟨H, hH⟩ : ∃ H : Heap, H = s.heap := ⟨_, rfl⟩
  obtain ⟨locs, hlo⟩ : ∃ L : List Loc, L = [] := ⟨_, rfl⟩
  have hP : va_P (dC, dI) vwCl (wMr dA b tr hg wk at_ en cm rg st0 en0 lg tR ngR scR lnR uR lu ru su qu pl rv si D CR FR LF RF SF QF P (tl0 dA b vs tp)) H := hH ▸ hP
  have hS : va_S A s.heap H locs := by rw [hH, hlo]; exact hS
  suffices hgo : W p l e rmMr_endTexts s m [.ref b].toArray below meth c H locs 0 0 (MQ below (qMr_endTexts dC dI dA dS b tr hg wk at_ en cm rg st0 en0 lg tR ngR scR lnR uR lu ru su qu pl rv si D CR FR LF RF SF QF P vs tp A) [.ref b].toArray s 0 0 A) (F0 m 0 ls []) by rw [hH, hlo] at hgo; exact hgo
  clear hH hlo
  refine lv_aload_n hx hb dMr_endTexts_0 rfl (lv_at hl 0 rfl) ?_
  refine lv_iconst (v := iI 0) hx hb dMr_endTexts_1 rfl ?_
  refine va_put (D := (dC, dI)) (ci := 6) (v := .int (iI 0)) (ty := .int) (C := "MacroReckoner") (T := TMr) (N := 11) hx hb hts inMr tyMr tyMr_ok nmMr hown hK hP hD hS 0 rfl rfl 2 (by decide) (hts _ wt1_175) (fun _ h9 => h9) rfl (by decide +kernel) rfl rfl (Nat.le_of_ble_eq_true rfl) dMr_endTexts_2 (fun H locs hP hD hS => ?_)
  have hP : va_P (dC, dI) vwCl (wMr dA b 0 hg wk at_ en cm rg st0 en0 lg tR ngR scR lnR uR lu ru su qu pl rv si D CR FR LF RF SF QF P (tl0 dA b vs tp)) H := hP
  have hD : va_D A (wMr dA b 0 hg wk at_ en cm rg st0 en0 lg tR ngR scR lnR uR lu ru su qu pl rv si D CR FR LF RF SF QF P (tl0 dA b vs tp)) := hD
  refine lv_iconst (v := iI 0) hx hb dMr_endTexts_5 rfl ?_
  exact rt_i hx hb hr hlocks hK hS dMr_endTexts_6 () hP hD (show 0 = 0 from by rfl)

theorem dMr_takeScale_0 : decode prog_1_method_27_code 0 = .ok (.aload_n 0, 1) := by decide +kernel
theorem dMr_takeScale_1 : decode prog_1_method_27_code 1 = .ok (.getfield 35, 3) := by decide +kernel
theorem dMr_takeScale_4 : decode prog_1_method_27_code 4 = .ok (.aload_n 0, 1) := by decide +kernel
theorem dMr_takeScale_5 : decode prog_1_method_27_code 5 = .ok (.getfield 39, 3) := by decide +kernel
theorem dMr_takeScale_8 : decode prog_1_method_27_code 8 = .ok (.iconst 1, 1) := by decide +kernel
theorem dMr_takeScale_9 : decode prog_1_method_27_code 9 = .ok (.isub, 1) := by decide +kernel
theorem dMr_takeScale_10 : decode prog_1_method_27_code 10 = .ok (.aaload, 1) := by decide +kernel
theorem dMr_takeScale_11 : decode prog_1_method_27_code 11 = .ok (.astore_n 1, 1) := by decide +kernel
theorem dMr_takeScale_12 : decode prog_1_method_27_code 12 = .ok (.aload_n 1, 1) := by decide +kernel
theorem dMr_takeScale_13 : decode prog_1_method_27_code 13 = .ok (.getfield 250, 3) := by decide +kernel
theorem dMr_takeScale_16 : decode prog_1_method_27_code 16 = .ok (.ifCond .ne 33, 3) := by decide +kernel
theorem dMr_takeScale_19 : decode prog_1_method_27_code 19 = .ok (.aload_n 1, 1) := by decide +kernel
theorem dMr_takeScale_20 : decode prog_1_method_27_code 20 = .ok (.getfield 226, 3) := by decide +kernel
theorem dMr_takeScale_23 : decode prog_1_method_27_code 23 = .ok (.ifCond .ne 26, 3) := by decide +kernel
theorem dMr_takeScale_26 : decode prog_1_method_27_code 26 = .ok (.aload_n 1, 1) := by decide +kernel
theorem dMr_takeScale_27 : decode prog_1_method_27_code 27 = .ok (.getfield 253, 3) := by decide +kernel
theorem dMr_takeScale_30 : decode prog_1_method_27_code 30 = .ok (.invokevirtual 257, 3) := by decide +kernel
theorem dMr_takeScale_33 : decode prog_1_method_27_code 33 = .ok (.iconst 2, 1) := by decide +kernel
theorem dMr_takeScale_34 : decode prog_1_method_27_code 34 = .ok (.if_icmp .gt 15, 3) := by decide +kernel
theorem dMr_takeScale_37 : decode prog_1_method_27_code 37 = .ok (.aload_n 1, 1) := by decide +kernel
theorem dMr_takeScale_38 : decode prog_1_method_27_code 38 = .ok (.getfield 253, 3) := by decide +kernel
theorem dMr_takeScale_41 : decode prog_1_method_27_code 41 = .ok (.invokevirtual 262, 3) := by decide +kernel
theorem dMr_takeScale_44 : decode prog_1_method_27_code 44 = .ok (.bipush 40, 2) := by decide +kernel
theorem dMr_takeScale_46 : decode prog_1_method_27_code 46 = .ok (.if_icmp .le 6, 3) := by decide +kernel
theorem dMr_takeScale_49 : decode prog_1_method_27_code 49 = .ok (.bipush (-4), 2) := by decide +kernel
theorem dMr_takeScale_51 : decode prog_1_method_27_code 51 = .ok (.ireturn, 1) := by decide +kernel
theorem dMr_takeScale_52 : decode prog_1_method_27_code 52 = .ok (.aload_n 0, 1) := by decide +kernel
theorem dMr_takeScale_53 : decode prog_1_method_27_code 53 = .ok (.aload_n 1, 1) := by decide +kernel
theorem dMr_takeScale_54 : decode prog_1_method_27_code 54 = .ok (.getfield 253, 3) := by decide +kernel
theorem dMr_takeScale_57 : decode prog_1_method_27_code 57 = .ok (.invokevirtual 262, 3) := by decide +kernel
theorem dMr_takeScale_60 : decode prog_1_method_27_code 60 = .ok (.putfield 45, 3) := by decide +kernel
theorem dMr_takeScale_63 : decode prog_1_method_27_code 63 = .ok (.aload_n 0, 1) := by decide +kernel
theorem dMr_takeScale_64 : decode prog_1_method_27_code 64 = .ok (.dup, 1) := by decide +kernel
theorem dMr_takeScale_65 : decode prog_1_method_27_code 65 = .ok (.getfield 39, 3) := by decide +kernel
theorem dMr_takeScale_68 : decode prog_1_method_27_code 68 = .ok (.iconst 1, 1) := by decide +kernel
theorem dMr_takeScale_69 : decode prog_1_method_27_code 69 = .ok (.isub, 1) := by decide +kernel
theorem dMr_takeScale_70 : decode prog_1_method_27_code 70 = .ok (.putfield 39, 3) := by decide +kernel
theorem dMr_takeScale_73 : decode prog_1_method_27_code 73 = .ok (.iconst 0, 1) := by decide +kernel
theorem dMr_takeScale_74 : decode prog_1_method_27_code 74 = .ok (.ireturn, 1) := by decide +kernel
abbrev qMr_takeScale (dC : Nat → ClassId) (dI : Nat → Nat → Nat) (dA : Nat → ClassId) (dS : Nat → Nat) (b : Nat) (tr : Int) (hg : Int) (wk : Int) (at_ : Int) (en : Int) (cm : Int) (rg : Int) (st0 : Int) (en0 : Int) (lg : Int) (tR : Int) (ngR : Int) (scR : Int) (lnR : Int) (uR : Int) (lu : Int) (ru : Int) (su : Int) (qu : Int) (pl : Int) (rv : Value) (si : Int → Nat) (D : Int → Int) (CR : Int → Int) (FR : Int → Int) (LF : Int → Int) (RF : Int → Int) (SF : Int → Int) (QF : Int → Int) (P : Int → Int) (vs : Nat → VS) (tp : Nat → TS) (st : AS) (A : Nat → Prop) : Array Value → State → Outcome → State → Prop := QI (dC, dI) vwCl (tyA dA) (fun (r : Int) (v_ : Int × Int) => r = (scaleA st).1 ∧ CH si vs v_.1 v_.2 (scaleA st).2) (fun (v_ : Int × Int) => wMr dA b tr v_.1 v_.2 at_ en cm rg st0 en0 lg tR ngR scR lnR uR lu ru su qu pl rv si D CR FR LF RF SF QF P (tl0 dA b vs tp)) A
abbrev rmMr_takeScale : Room := { frames := 1, cells := 0, slots := 0, locals := 23 }
set_option maxRecDepth 100000 in
set_option maxHeartbeats 1000000 in
theorem cMr_takeScale (l : Launch) (dC : Nat → ClassId) (dI : Nat → Nat → Nat) (dA : Nat → ClassId) (dS : Nat → Nat) (b : Nat) (tr : Int) (hg : Int) (wk : Int) (at_ : Int) (en : Int) (cm : Int) (rg : Int) (st0 : Int) (en0 : Int) (lg : Int) (tR : Int) (ngR : Int) (scR : Int) (lnR : Int) (uR : Int) (lu : Int) (ru : Int) (su : Int) (qu : Int) (pl : Int) (rv : Value) (si : Int → Nat) (D : Int → Int) (CR : Int → Int) (FR : Int → Int) (LF : Int → Int) (RF : Int → Int) (SF : Int → Int) (QF : Int → Int) (P : Int → Int) (vs : Nat → VS) (tp : Nat → TS) (st : AS) (hCH : CH si vs hg wk st) (hg1_ : 1 ≤ hg) (htn : (st.stk (st.h - 1)).t = 0) (sz : Nat) : Met l yMr_takeScale wsMr_takeScale rmMr_takeScale (PC (dC, dI) vwCl (tyA dA) (XC dS) [.ref b] (wMr dA b tr hg wk at_ en cm rg st0 en0 lg tR ngR scR lnR uR lu ru su qu pl rv si D CR FR LF RF SF QF P (tl0 dA b vs tp)) sz) (qMr_takeScale dC dI dA dS b tr hg wk at_ en cm rg st0 en0 lg tR ngR scR lnR uR lu ru su qu pl rv si D CR FR LF RF SF QF P vs tp st (va_A (wMr dA b tr hg wk at_ en cm rg st0 en0 lg tR ngR scR lnR uR lu ru su qu pl rv si D CR FR LF RF SF QF P (tl0 dA b vs tp)) sz)) 0 0 (va_A (wMr dA b tr hg wk at_ en cm rg st0 en0 lg tR ngR scR lnR uR lu ru su qu pl rv si D CR FR LF RF SF QF P (tl0 dA b vs tp)) sz) := by
  refine met_of (cc := prog_1_method_27_code) (maxL := 2) (ret := (some .int)) (Qc := qMr_takeScale dC dI dA dS b tr hg wk at_ en cm rg st0 en0 lg tR ngR scR lnR uR lu ru su qu pl rv si D CR FR LF RF SF QF P vs tp st) (XC_ok dS) (by decide) rfl (Nat.le_of_ble_eq_true rfl) ?_
  intro p e s m below meth c ls A hx hb hr hml hown hts hlocks hnm hK hP hD hA hX hS hl
  have hl : lv_has ls 2 [(0, .ref b)] := hl
  have hown : s.vm.findClass "MacroReckoner" = some m.cls := hown
  obtain ⟨H, hH⟩ : ∃ H : Heap, H = s.heap := ⟨_, rfl⟩
  obtain ⟨locs, hlo⟩ : ∃ L : List Loc, L = [] := ⟨_, rfl⟩
  have hP : va_P (dC, dI) vwCl (wMr dA b tr hg wk at_ en cm rg st0 en0 lg tR ngR scR lnR uR lu ru su qu pl rv si D CR FR LF RF SF QF P (tl0 dA b vs tp)) H := hH ▸ hP
  have hS : va_S A s.heap H locs := by rw [hH, hlo]; exact hS
  suffices hgo : W p l e rmMr_takeScale s m [.ref b].toArray below meth c H locs 0 0 (MQ below (qMr_takeScale dC dI dA dS b tr hg wk at_ en cm rg st0 en0 lg tR ngR scR lnR uR lu ru su qu pl rv si D CR FR LF RF SF QF P vs tp st A) [.ref b].toArray s 0 0 A) (F0 m 0 ls []) by rw [hH, hlo] at hgo; exact hgo
  clear hH hlo
  have hh := hCH.1
  have hs9 := hCH.2.2.1 (hg - 1) (by omega) (by omega)
  have hCV := hCH.2.2.2.2.2 (hg - 1) (by omega) (by omega)
  rw [show st.stk (hg - 1) = st.stk (st.h - 1) by rw [hh.1]] at hCV
  refine lv_aload_n hx hb dMr_takeScale_0 rfl (lv_at hl 0 rfl) ?_
  refine va_get (D := (dC, dI)) (ci := 6) (v := .ref (b + 5)) (C := "MacroReckoner") (T := TMr) (N := 11) hx hb hts inMr hown hK hP 0 rfl rfl 4 (by decide) (hts _ wt1_177) (fun _ h9 => h9) rfl dMr_takeScale_1 ?_
  refine lv_aload_n hx hb dMr_takeScale_4 rfl (lv_at hl 0 rfl) ?_
  refine va_get (D := (dC, dI)) (ci := 6) (v := .int (iI hg)) (C := "MacroReckoner") (T := TMr) (N := 11) hx hb hts inMr hown hK hP 0 rfl rfl 5 (by decide) (hts _ wt1_178) (fun _ h9 => h9) rfl dMr_takeScale_5 ?_
  refine lv_iconst (v := iI 1) hx hb dMr_takeScale_8 rfl ?_
  refine iv_isub hx hb dMr_takeScale_9 ?_
  refine iv_aald hx hb hK hP 5 4 rfl rfl (by decide) dMr_takeScale_10 (by omega) (by omega) ?_
  refine W.eq (g2 := F0 m 11 ls [.ref (b + 38 + 4 * si (hg - 1))]) rfl ?_
  obtain ⟨a1, e_a1⟩ : ∃ z : Nat, z = b + 38 + 4 * si (hg - 1) := ⟨_, rfl⟩
  rw [← e_a1]
  refine lv_astore_n (lv' := [(1, .ref a1), (0, .ref b)]) hx hb dMr_takeScale_11 rfl hl (by decide) rfl (fun ls hl => ?_)
  obtain ⟨⟨tv, ngv, scv, lnv, uv, Cv, Fv⟩, e_vv⟩ : ∃ z : VS, z = vs (si (hg - 1)) := ⟨_, rfl⟩
  have hP := va_P_pm (wMr_p (fV1 (dA := dA) (b := b) (vs := vs) (tp := tp) (k := si (hg - 1)) (by omega))) hP
  have hD := va_D_pm (wMr_p (fV1 (dA := dA) (b := b) (vs := vs) (tp := tp) (k := si (hg - 1)) (by omega))) hD
  rw [← e_vv, ← e_a1] at hP hD
  have hP : va_P (dC, dI) vwCl (wMr dA b tr hg wk at_ en cm rg st0 en0 lg tR ngR scR lnR uR lu ru su qu pl rv si D CR FR LF RF SF QF P (wVx dA a1 tv ngv scv lnv uv Cv Fv (tV1 dA b vs tp (si (hg - 1))))) H := hP
  have hD : va_D A (wMr dA b tr hg wk at_ en cm rg st0 en0 lg tR ngR scR lnR uR lu ru su qu pl rv si D CR FR LF RF SF QF P (wVx dA a1 tv ngv scv lnv uv Cv Fv (tV1 dA b vs tp (si (hg - 1))))) := hD
  rw [← e_vv] at hCV
  obtain ⟨N9, hV9, hW9, ha1, ha2, ha3, ha4, ha5⟩ := hCV
  refine lv_aload_n hx hb dMr_takeScale_12 rfl (lv_at hl 0 rfl) ?_
  refine va_getN (D := (dC, dI)) (ci := 4) (v := .int (iI scv)) (C := "MacroReckoner$Value") (T := TVa) (N := 6) hx hb hts inVa hown hK hP 22 rfl rfl 3 (by decide) (va_Nw.use rfl (hX.1 ("MacroReckoner", 250, "MacroReckoner$Value", "scale", "I", "MacroReckoner") (List.mem_of_getElem? (i := 18) rfl))) (fun _ h9 => h9) rfl dMr_takeScale_13 ?_
  have hvv : VV tv ngv scv lnv Cv N9 := hV9
  obtain ⟨hv1, hv2, hv3, -, -, -, -, hv8, hv9⟩ := hvv
  have hb3 : (st.stk (st.h - 1)).sc = scv := ha3
  have hb2 : (st.stk (st.h - 1)).v = sg ngv N9 := ha2
  have hn0 := (WR_bd hW9).1
  refine iv_if_ne (tgt := 49) hx hb dMr_takeScale_16 (by decide) ⟨by omega, by omega⟩ (fun hc16 => ?_) (fun hc16 => ?_)
  · rw [e_a1] at hP hD
    have hP := va_P_pm (wMr_p (uV1 (dA := dA) (b := b) (vs := vs) (tp := tp) (k := si (hg - 1)) (v := (tv, ngv, scv, lnv, uv, Cv, Fv)) (by omega))) hP
    have hD := va_D_pm (wMr_p (uV1 (dA := dA) (b := b) (vs := vs) (tp := tp) (k := si (hg - 1)) (v := (tv, ngv, scv, lnv, uv, Cv, Fv)) (by omega))) hD
    rw [upF_id e_vv] at hP hD
    have hP : va_P (dC, dI) vwCl (wMr dA b tr hg wk at_ en cm rg st0 en0 lg tR ngR scR lnR uR lu ru su qu pl rv si D CR FR LF RF SF QF P (tl0 dA b vs tp)) H := hP
    have hD : va_D A (wMr dA b tr hg wk at_ en cm rg st0 en0 lg tR ngR scR lnR uR lu ru su qu pl rv si D CR FR LF RF SF QF P (tl0 dA b vs tp)) := hD
    refine lv_bipush (v := iI (-4)) hx hb dMr_takeScale_49 (by decide) ?_
    exact rt_i hx hb hr hlocks hK hS dMr_takeScale_51 (hg, wk) hP hD (show (-4) = (scaleA st).1 ∧ CH si vs hg wk (scaleA st).2 from by have hbk : (st.stk (st.h - 1)).sc ≠ 0 ∨ (st.stk (st.h - 1)).v < 0 ∨ 40 < (st.stk (st.h - 1)).v := (by rw [hb2, hb3]; unfold sg; first | exact Or.inl (by omega) | (rw [if_pos (by omega)]; have := hv8 (by omega); omega) | (rw [if_neg (by omega)]; first | omega | (have h := DL_ge hq30 (show (0 : Int) ≤ 2 by decide) (by omega); rw [show PW 10 2 = 100 from rfl] at h; omega))); unfold scaleA; rw [if_pos hbk]; exact ⟨rfl, hCH⟩)
  · refine lv_aload_n hx hb dMr_takeScale_19 rfl (lv_at hl 0 rfl) ?_
    refine va_getN (D := (dC, dI)) (ci := 4) (v := .int (iI ngv)) (C := "MacroReckoner$Value") (T := TVa) (N := 6) hx hb hts inVa hown hK hP 22 rfl rfl 2 (by decide) (va_Nw.use rfl (hX.1 ("MacroReckoner", 226, "MacroReckoner$Value", "negative", "Z", "MacroReckoner") (List.mem_of_getElem? (i := 15) rfl))) (fun _ h9 => h9) rfl dMr_takeScale_20 ?_
    refine iv_if_ne (tgt := 49) hx hb dMr_takeScale_23 (by decide) ⟨by omega, by omega⟩ (fun hc23 => ?_) (fun hc23 => ?_)
    · rw [e_a1] at hP hD
      have hP := va_P_pm (wMr_p (uV1 (dA := dA) (b := b) (vs := vs) (tp := tp) (k := si (hg - 1)) (v := (tv, ngv, scv, lnv, uv, Cv, Fv)) (by omega))) hP
      have hD := va_D_pm (wMr_p (uV1 (dA := dA) (b := b) (vs := vs) (tp := tp) (k := si (hg - 1)) (v := (tv, ngv, scv, lnv, uv, Cv, Fv)) (by omega))) hD
      rw [upF_id e_vv] at hP hD
      have hP : va_P (dC, dI) vwCl (wMr dA b tr hg wk at_ en cm rg st0 en0 lg tR ngR scR lnR uR lu ru su qu pl rv si D CR FR LF RF SF QF P (tl0 dA b vs tp)) H := hP
      have hD : va_D A (wMr dA b tr hg wk at_ en cm rg st0 en0 lg tR ngR scR lnR uR lu ru su qu pl rv si D CR FR LF RF SF QF P (tl0 dA b vs tp)) := hD
      refine lv_bipush (v := iI (-4)) hx hb dMr_takeScale_49 (by decide) ?_
      exact rt_i hx hb hr hlocks hK hS dMr_takeScale_51 (hg, wk) hP hD (show (-4) = (scaleA st).1 ∧ CH si vs hg wk (scaleA st).2 from by have hbk : (st.stk (st.h - 1)).sc ≠ 0 ∨ (st.stk (st.h - 1)).v < 0 ∨ 40 < (st.stk (st.h - 1)).v := (by rw [hb2, hb3]; unfold sg; first | exact Or.inl (by omega) | (rw [if_pos (by omega)]; have := hv8 (by omega); omega) | (rw [if_neg (by omega)]; first | omega | (have h := DL_ge hq30 (show (0 : Int) ≤ 2 by decide) (by omega); rw [show PW 10 2 = 100 from rfl] at h; omega))); unfold scaleA; rw [if_pos hbk]; exact ⟨rfl, hCH⟩)
    · refine lv_aload_n hx hb dMr_takeScale_26 rfl (lv_at hl 0 rfl) ?_
      refine va_getN (D := (dC, dI)) (ci := 4) (v := .ref (a1 + 1)) (C := "MacroReckoner$Value") (T := TVa) (N := 6) hx hb hts inVa hown hK hP 22 rfl rfl 1 (by decide) (va_Nw.use rfl (hX.1 ("MacroReckoner", 253, "MacroReckoner$Value", "whole", "LMacroReckoner$Whole;", "MacroReckoner") (List.mem_of_getElem? (i := 12) rfl))) (fun _ h9 => h9) rfl dMr_takeScale_27 ?_
      refine cvT_i (we := wMr dA b tr hg wk at_ en cm rg st0 en0 lg tR ngR scR lnR uR lu ru su qu pl rv si D CR FR LF RF SF QF P (wVx dA a1 tv ngv scv lnv uv Cv Fv [])) (tl := tV1 dA b vs tp (si (hg - 1))) (va_runV (C := "MacroReckoner$Whole") (As := []) (rest := []) ⟨hx, hb, hml, hown, hts⟩ (cWh_size l dC dI dA dS (a1 + 1) (a1 + 2) Fv uv N9 (by exact hW9) H.size) (cwV 0 hts (gdV wt3_203 wt3_31 wt3_32 wt1_5 wt3_33) rfl rfl rfl ⟨rfl, by decide, by decide, by decide +kernel⟩ ⟨by decide, by decide⟩) (preV (q := ("MacroReckoner$Whole", TWh, 2)) hK hP hD hS hA (XC_ok dS) hX [23, 24] rfl rfl 0 rfl rfl) rfl rfl hl.1 rfl (lv_room (Nat.le_of_ble_eq_true rfl)) dMr_takeScale_30 ⟨Nat.zero_le _, Nat.zero_le _⟩) hP hD hS hA [23, 24] [0, 1, 2, 3, 4, 5, 6, 7, 8, 9, 10, 11, 12, 13, 14, 15, 16, 17, 18, 19, 20, 21, 22, 25] rfl (fun v_ => wMr dA b tr hg wk at_ en cm rg st0 en0 lg tR ngR scR lnR uR lu ru su qu pl rv si D CR FR LF RF SF QF P (wVx dA a1 tv ngv scv lnv uv Cv Fv [])) (fun _ => rfl) (wMr dA b tr hg wk at_ en cm rg st0 en0 lg tR ngR scR lnR uR lu ru su qu pl rv si D CR FR LF RF SF QF P ((a1, .inr (4, [.int (iI tv), .ref (a1 + 1), .int (iI ngv), .int (iI scv), .ref (a1 + 3), .int (iI lnv)])) :: (a1 + 3, .inl (dA 1, 60, .inl (arI Cv))) :: [])) rfl (fun _ => rfl) [b, b + 1, b + 2, b + 3, b + 4, b + 5, b + 6, b + 7, b + 8, b + 9, b + 10, b + 11, b + 12, b + 13, b + 14, b + 15, b + 16, b + 17, b + 18, b + 19, b + 20, b + 21, a1, a1 + 1, a1 + 2, a1 + 3] rfl (fun _ => rfl) (fun _ => rfl) (fun r30 u_ H locs hq30 hP hD hS => ?_)
      have hP : va_P (dC, dI) vwCl (wMr dA b tr hg wk at_ en cm rg st0 en0 lg tR ngR scR lnR uR lu ru su qu pl rv si D CR FR LF RF SF QF P (wVx dA a1 tv ngv scv lnv uv Cv Fv (tV1 dA b vs tp (si (hg - 1))))) H := hP
      have hD : va_D A (wMr dA b tr hg wk at_ en cm rg st0 en0 lg tR ngR scR lnR uR lu ru su qu pl rv si D CR FR LF RF SF QF P (wVx dA a1 tv ngv scv lnv uv Cv Fv (tV1 dA b vs tp (si (hg - 1))))) := hD
      have hq30 : DL N9 r30 := hq30
      have hdl := WR_dl hW9 hq30
      refine lv_iconst (v := iI 2) hx hb dMr_takeScale_33 rfl ?_
      refine iv_icmp_gt (tgt := 49) hx hb dMr_takeScale_34 (by decide) ⟨by omega, by omega⟩ ⟨by decide, by decide⟩ (fun hc34 => ?_) (fun hc34 => ?_)
      · rw [e_a1] at hP hD
        have hP := va_P_pm (wMr_p (uV1 (dA := dA) (b := b) (vs := vs) (tp := tp) (k := si (hg - 1)) (v := (tv, ngv, scv, lnv, uv, Cv, Fv)) (by omega))) hP
        have hD := va_D_pm (wMr_p (uV1 (dA := dA) (b := b) (vs := vs) (tp := tp) (k := si (hg - 1)) (v := (tv, ngv, scv, lnv, uv, Cv, Fv)) (by omega))) hD
        rw [upF_id e_vv] at hP hD
        have hP : va_P (dC, dI) vwCl (wMr dA b tr hg wk at_ en cm rg st0 en0 lg tR ngR scR lnR uR lu ru su qu pl rv si D CR FR LF RF SF QF P (tl0 dA b vs tp)) H := hP
        have hD : va_D A (wMr dA b tr hg wk at_ en cm rg st0 en0 lg tR ngR scR lnR uR lu ru su qu pl rv si D CR FR LF RF SF QF P (tl0 dA b vs tp)) := hD
        refine lv_bipush (v := iI (-4)) hx hb dMr_takeScale_49 (by decide) ?_
        exact rt_i hx hb hr hlocks hK hS dMr_takeScale_51 (hg, wk) hP hD (show (-4) = (scaleA st).1 ∧ CH si vs hg wk (scaleA st).2 from by have hbk : (st.stk (st.h - 1)).sc ≠ 0 ∨ (st.stk (st.h - 1)).v < 0 ∨ 40 < (st.stk (st.h - 1)).v := (by rw [hb2, hb3]; unfold sg; first | exact Or.inl (by omega) | (rw [if_pos (by omega)]; have := hv8 (by omega); omega) | (rw [if_neg (by omega)]; first | omega | (have h := DL_ge hq30 (show (0 : Int) ≤ 2 by decide) (by omega); rw [show PW 10 2 = 100 from rfl] at h; omega))); unfold scaleA; rw [if_pos hbk]; exact ⟨rfl, hCH⟩)
      · refine lv_aload_n hx hb dMr_takeScale_37 rfl (lv_at hl 0 rfl) ?_
        refine va_getN (D := (dC, dI)) (ci := 4) (v := .ref (a1 + 1)) (C := "MacroReckoner$Value") (T := TVa) (N := 6) hx hb hts inVa hown hK hP 22 rfl rfl 1 (by decide) (va_Nw.use rfl (hX.1 ("MacroReckoner", 253, "MacroReckoner$Value", "whole", "LMacroReckoner$Whole;", "MacroReckoner") (List.mem_of_getElem? (i := 12) rfl))) (fun _ h9 => h9) rfl dMr_takeScale_38 ?_
        refine cvT_i (we := wMr dA b tr hg wk at_ en cm rg st0 en0 lg tR ngR scR lnR uR lu ru su qu pl rv si D CR FR LF RF SF QF P (wVx dA a1 tv ngv scv lnv uv Cv Fv [])) (tl := tV1 dA b vs tp (si (hg - 1))) (va_runV (C := "MacroReckoner$Whole") (As := []) (rest := []) ⟨hx, hb, hml, hown, hts⟩ (cWh_lowest l dC dI dA (a1 + 1) (a1 + 2) Fv uv N9 (by exact hW9) H.size) (cwV 0 hts (gdV wt3_204 wt3_163 wt3_164 wt1_5 wt3_165) rfl rfl rfl ⟨rfl, by decide, by decide, by decide +kernel⟩ ⟨by decide, by decide⟩) (preV (q := ("MacroReckoner$Whole", TWh, 2)) hK hP hD hS hA XN_ok trivial [23, 24] rfl rfl 0 rfl rfl) rfl rfl hl.1 rfl (lv_room (Nat.le_of_ble_eq_true rfl)) dMr_takeScale_41 ⟨Nat.zero_le _, Nat.zero_le _⟩) hP hD hS hA [23, 24] [0, 1, 2, 3, 4, 5, 6, 7, 8, 9, 10, 11, 12, 13, 14, 15, 16, 17, 18, 19, 20, 21, 22, 25] rfl (fun v_ => wMr dA b tr hg wk at_ en cm rg st0 en0 lg tR ngR scR lnR uR lu ru su qu pl rv si D CR FR LF RF SF QF P (wVx dA a1 tv ngv scv lnv uv Cv Fv [])) (fun _ => rfl) (wMr dA b tr hg wk at_ en cm rg st0 en0 lg tR ngR scR lnR uR lu ru su qu pl rv si D CR FR LF RF SF QF P ((a1, .inr (4, [.int (iI tv), .ref (a1 + 1), .int (iI ngv), .int (iI scv), .ref (a1 + 3), .int (iI lnv)])) :: (a1 + 3, .inl (dA 1, 60, .inl (arI Cv))) :: [])) rfl (fun _ => rfl) [b, b + 1, b + 2, b + 3, b + 4, b + 5, b + 6, b + 7, b + 8, b + 9, b + 10, b + 11, b + 12, b + 13, b + 14, b + 15, b + 16, b + 17, b + 18, b + 19, b + 20, b + 21, a1, a1 + 1, a1 + 2, a1 + 3] rfl (fun _ => rfl) (fun _ => rfl) (fun r41 u_ H locs hq41 hP hD hS => ?_)
        have hP : va_P (dC, dI) vwCl (wMr dA b tr hg wk at_ en cm rg st0 en0 lg tR ngR scR lnR uR lu ru su qu pl rv si D CR FR LF RF SF QF P (wVx dA a1 tv ngv scv lnv uv Cv Fv (tV1 dA b vs tp (si (hg - 1))))) H := hP
        have hD : va_D A (wMr dA b tr hg wk at_ en cm rg st0 en0 lg tR ngR scR lnR uR lu ru su qu pl rv si D CR FR LF RF SF QF P (wVx dA a1 tv ngv scv lnv uv Cv Fv (tV1 dA b vs tp (si (hg - 1))))) := hD
        have hq41 : r41 = N9 % 1000000000 := hq41
        have hlt : N9 < 100 := by have h := DL_lt hq30 (show r30 ≤ 2 by omega); rw [show PW 10 2 = 100 from rfl] at h; exact h
        refine lv_bipush (v := iI 40) hx hb dMr_takeScale_44 (by decide) ?_
        refine iv_icmp_le (tgt := 52) hx hb dMr_takeScale_46 (by decide) ⟨by omega, by omega⟩ ⟨by decide, by decide⟩ (fun hc46 => ?_) (fun hc46 => ?_)
        · refine lv_aload_n hx hb dMr_takeScale_52 rfl (lv_at hl 1 rfl) ?_
          refine lv_aload_n hx hb dMr_takeScale_53 rfl (lv_at hl 0 rfl) ?_
          refine va_getN (D := (dC, dI)) (ci := 4) (v := .ref (a1 + 1)) (C := "MacroReckoner$Value") (T := TVa) (N := 6) hx hb hts inVa hown hK hP 22 rfl rfl 1 (by decide) (va_Nw.use rfl (hX.1 ("MacroReckoner", 253, "MacroReckoner$Value", "whole", "LMacroReckoner$Whole;", "MacroReckoner") (List.mem_of_getElem? (i := 12) rfl))) (fun _ h9 => h9) rfl dMr_takeScale_54 ?_
          refine cvT_i (we := wMr dA b tr hg wk at_ en cm rg st0 en0 lg tR ngR scR lnR uR lu ru su qu pl rv si D CR FR LF RF SF QF P (wVx dA a1 tv ngv scv lnv uv Cv Fv [])) (tl := tV1 dA b vs tp (si (hg - 1))) (va_runV (C := "MacroReckoner$Whole") (As := []) (rest := [.ref b]) ⟨hx, hb, hml, hown, hts⟩ (cWh_lowest l dC dI dA (a1 + 1) (a1 + 2) Fv uv N9 (by exact hW9) H.size) (cwV 0 hts (gdV wt3_204 wt3_163 wt3_164 wt1_5 wt3_165) rfl rfl rfl ⟨rfl, by decide, by decide, by decide +kernel⟩ ⟨by decide, by decide⟩) (preV (q := ("MacroReckoner$Whole", TWh, 2)) hK hP hD hS hA XN_ok trivial [23, 24] rfl rfl 0 rfl rfl) rfl rfl hl.1 rfl (lv_room (Nat.le_of_ble_eq_true rfl)) dMr_takeScale_57 ⟨Nat.zero_le _, Nat.zero_le _⟩) hP hD hS hA [23, 24] [0, 1, 2, 3, 4, 5, 6, 7, 8, 9, 10, 11, 12, 13, 14, 15, 16, 17, 18, 19, 20, 21, 22, 25] rfl (fun v_ => wMr dA b tr hg wk at_ en cm rg st0 en0 lg tR ngR scR lnR uR lu ru su qu pl rv si D CR FR LF RF SF QF P (wVx dA a1 tv ngv scv lnv uv Cv Fv [])) (fun _ => rfl) (wMr dA b tr hg wk at_ en cm rg st0 en0 lg tR ngR scR lnR uR lu ru su qu pl rv si D CR FR LF RF SF QF P ((a1, .inr (4, [.int (iI tv), .ref (a1 + 1), .int (iI ngv), .int (iI scv), .ref (a1 + 3), .int (iI lnv)])) :: (a1 + 3, .inl (dA 1, 60, .inl (arI Cv))) :: [])) rfl (fun _ => rfl) [b, b + 1, b + 2, b + 3, b + 4, b + 5, b + 6, b + 7, b + 8, b + 9, b + 10, b + 11, b + 12, b + 13, b + 14, b + 15, b + 16, b + 17, b + 18, b + 19, b + 20, b + 21, a1, a1 + 1, a1 + 2, a1 + 3] rfl (fun _ => rfl) (fun _ => rfl) (fun r57 u_ H locs hq57 hP hD hS => ?_)
          have hP : va_P (dC, dI) vwCl (wMr dA b tr hg wk at_ en cm rg st0 en0 lg tR ngR scR lnR uR lu ru su qu pl rv si D CR FR LF RF SF QF P (wVx dA a1 tv ngv scv lnv uv Cv Fv (tV1 dA b vs tp (si (hg - 1))))) H := hP
          have hD : va_D A (wMr dA b tr hg wk at_ en cm rg st0 en0 lg tR ngR scR lnR uR lu ru su qu pl rv si D CR FR LF RF SF QF P (wVx dA a1 tv ngv scv lnv uv Cv Fv (tV1 dA b vs tp (si (hg - 1))))) := hD
          have hq57 : r57 = N9 % 1000000000 := hq57
          refine va_put (D := (dC, dI)) (ci := 6) (v := .int (iI r57)) (ty := .int) (C := "MacroReckoner") (T := TMr) (N := 11) hx hb hts inMr tyMr tyMr_ok nmMr hown hK hP hD hS 0 rfl rfl 7 (by decide) (hts _ wt1_180) (fun _ h9 => h9) rfl (by decide +kernel) rfl rfl (Nat.le_of_ble_eq_true rfl) dMr_takeScale_60 (fun H locs hP hD hS => ?_)
          have hP : va_P (dC, dI) vwCl (wMr dA b tr hg r57 at_ en cm rg st0 en0 lg tR ngR scR lnR uR lu ru su qu pl rv si D CR FR LF RF SF QF P (wVx dA a1 tv ngv scv lnv uv Cv Fv (tV1 dA b vs tp (si (hg - 1))))) H := hP
          have hD : va_D A (wMr dA b tr hg r57 at_ en cm rg st0 en0 lg tR ngR scR lnR uR lu ru su qu pl rv si D CR FR LF RF SF QF P (wVx dA a1 tv ngv scv lnv uv Cv Fv (tV1 dA b vs tp (si (hg - 1))))) := hD
          refine lv_aload_n hx hb dMr_takeScale_63 rfl (lv_at hl 1 rfl) ?_
          refine lv_dup hx hb dMr_takeScale_64 rfl ?_
          refine va_get (D := (dC, dI)) (ci := 6) (v := .int (iI hg)) (C := "MacroReckoner") (T := TMr) (N := 11) hx hb hts inMr hown hK hP 0 rfl rfl 5 (by decide) (hts _ wt1_178) (fun _ h9 => h9) rfl dMr_takeScale_65 ?_
          refine lv_iconst (v := iI 1) hx hb dMr_takeScale_68 rfl ?_
          refine iv_isub hx hb dMr_takeScale_69 ?_
          refine va_put (D := (dC, dI)) (ci := 6) (v := .int (iI (hg - 1))) (ty := .int) (C := "MacroReckoner") (T := TMr) (N := 11) hx hb hts inMr tyMr tyMr_ok nmMr hown hK hP hD hS 0 rfl rfl 5 (by decide) (hts _ wt1_178) (fun _ h9 => h9) rfl (by decide +kernel) rfl rfl (Nat.le_of_ble_eq_true rfl) dMr_takeScale_70 (fun H locs hP hD hS => ?_)
          have hP : va_P (dC, dI) vwCl (wMr dA b tr (hg - 1) r57 at_ en cm rg st0 en0 lg tR ngR scR lnR uR lu ru su qu pl rv si D CR FR LF RF SF QF P (wVx dA a1 tv ngv scv lnv uv Cv Fv (tV1 dA b vs tp (si (hg - 1))))) H := hP
          have hD : va_D A (wMr dA b tr (hg - 1) r57 at_ en cm rg st0 en0 lg tR ngR scR lnR uR lu ru su qu pl rv si D CR FR LF RF SF QF P (wVx dA a1 tv ngv scv lnv uv Cv Fv (tV1 dA b vs tp (si (hg - 1))))) := hD
          rw [e_a1] at hP hD
          have hP := va_P_pm (wMr_p (uV1 (dA := dA) (b := b) (vs := vs) (tp := tp) (k := si (hg - 1)) (v := (tv, ngv, scv, lnv, uv, Cv, Fv)) (by omega))) hP
          have hD := va_D_pm (wMr_p (uV1 (dA := dA) (b := b) (vs := vs) (tp := tp) (k := si (hg - 1)) (v := (tv, ngv, scv, lnv, uv, Cv, Fv)) (by omega))) hD
          rw [upF_id e_vv] at hP hD
          have hP : va_P (dC, dI) vwCl (wMr dA b tr (hg - 1) r57 at_ en cm rg st0 en0 lg tR ngR scR lnR uR lu ru su qu pl rv si D CR FR LF RF SF QF P (tl0 dA b vs tp)) H := hP
          have hD : va_D A (wMr dA b tr (hg - 1) r57 at_ en cm rg st0 en0 lg tR ngR scR lnR uR lu ru su qu pl rv si D CR FR LF RF SF QF P (tl0 dA b vs tp)) := hD
          refine lv_iconst (v := iI 0) hx hb dMr_takeScale_73 rfl ?_
          exact rt_i hx hb hr hlocks hK hS dMr_takeScale_74 (hg - 1, r57) hP hD (show 0 = (scaleA st).1 ∧ CH si vs (hg - 1) r57 (scaleA st).2 from by have hv0 : (st.stk (st.h - 1)).v = N9 := (by rw [hb2]; exact sg_0 (by omega)); have hbk : ¬ ((st.stk (st.h - 1)).sc ≠ 0 ∨ (st.stk (st.h - 1)).v < 0 ∨ 40 < (st.stk (st.h - 1)).v) := (by rw [hb3, hv0]; omega); unfold scaleA; rw [if_neg hbk]; refine ⟨rfl, ?_⟩; rw [hv0, show r57 = N9 by omega]; exact CH_c (CH_h (CH_k hCH (show 0 ≤ N9 ∧ N9 ≤ 40 by omega)) (show 0 ≤ hg - 1 ∧ hg - 1 ≤ hg by omega)) (by show st.h - 1 = hg - 1; omega) rfl rfl rfl)
        · rw [e_a1] at hP hD
          have hP := va_P_pm (wMr_p (uV1 (dA := dA) (b := b) (vs := vs) (tp := tp) (k := si (hg - 1)) (v := (tv, ngv, scv, lnv, uv, Cv, Fv)) (by omega))) hP
          have hD := va_D_pm (wMr_p (uV1 (dA := dA) (b := b) (vs := vs) (tp := tp) (k := si (hg - 1)) (v := (tv, ngv, scv, lnv, uv, Cv, Fv)) (by omega))) hD
          rw [upF_id e_vv] at hP hD
          have hP : va_P (dC, dI) vwCl (wMr dA b tr hg wk at_ en cm rg st0 en0 lg tR ngR scR lnR uR lu ru su qu pl rv si D CR FR LF RF SF QF P (tl0 dA b vs tp)) H := hP
          have hD : va_D A (wMr dA b tr hg wk at_ en cm rg st0 en0 lg tR ngR scR lnR uR lu ru su qu pl rv si D CR FR LF RF SF QF P (tl0 dA b vs tp)) := hD
          refine lv_bipush (v := iI (-4)) hx hb dMr_takeScale_49 (by decide) ?_
          exact rt_i hx hb hr hlocks hK hS dMr_takeScale_51 (hg, wk) hP hD (show (-4) = (scaleA st).1 ∧ CH si vs hg wk (scaleA st).2 from by have hbk : (st.stk (st.h - 1)).sc ≠ 0 ∨ (st.stk (st.h - 1)).v < 0 ∨ 40 < (st.stk (st.h - 1)).v := (by rw [hb2, hb3]; unfold sg; first | exact Or.inl (by omega) | (rw [if_pos (by omega)]; have := hv8 (by omega); omega) | (rw [if_neg (by omega)]; first | omega | (have h := DL_ge hq30 (show (0 : Int) ≤ 2 by decide) (by omega); rw [show PW 10 2 = 100 from rfl] at h; omega))); unfold scaleA; rw [if_pos hbk]; exact ⟨rfl, hCH⟩)

theorem dMr_measure_0 : decode prog_1_method_31_code 0 = .ok (.aload_n 0, 1) := by decide +kernel
theorem dMr_measure_1 : decode prog_1_method_31_code 1 = .ok (.getfield 35, 3) := by decide +kernel
theorem dMr_measure_4 : decode prog_1_method_31_code 4 = .ok (.aload_n 0, 1) := by decide +kernel
theorem dMr_measure_5 : decode prog_1_method_31_code 5 = .ok (.getfield 39, 3) := by decide +kernel
theorem dMr_measure_8 : decode prog_1_method_31_code 8 = .ok (.iconst 1, 1) := by decide +kernel
theorem dMr_measure_9 : decode prog_1_method_31_code 9 = .ok (.isub, 1) := by decide +kernel
theorem dMr_measure_10 : decode prog_1_method_31_code 10 = .ok (.aaload, 1) := by decide +kernel
theorem dMr_measure_11 : decode prog_1_method_31_code 11 = .ok (.astore_n 2, 1) := by decide +kernel
theorem dMr_measure_12 : decode prog_1_method_31_code 12 = .ok (.aload_n 2, 1) := by decide +kernel
theorem dMr_measure_13 : decode prog_1_method_31_code 13 = .ok (.getfield 107, 3) := by decide +kernel
theorem dMr_measure_16 : decode prog_1_method_31_code 16 = .ok (.ifCond .eq 22, 3) := by decide +kernel
theorem dMr_measure_19 : decode prog_1_method_31_code 19 = .ok (.aload_n 2, 1) := by decide +kernel
theorem dMr_measure_20 : decode prog_1_method_31_code 20 = .ok (.iload_n 1, 1) := by decide +kernel
theorem dMr_measure_21 : decode prog_1_method_31_code 21 = .ok (.ifCond .eq 10, 3) := by decide +kernel
theorem dMr_measure_24 : decode prog_1_method_31_code 24 = .ok (.aload_n 2, 1) := by decide +kernel
theorem dMr_measure_25 : decode prog_1_method_31_code 25 = .ok (.getfield 278, 3) := by decide +kernel
theorem dMr_measure_28 : decode prog_1_method_31_code 28 = .ok (.goto 4, 3) := by decide +kernel
theorem dMr_measure_31 : decode prog_1_method_31_code 31 = .ok (.iconst 0, 1) := by decide +kernel
theorem dMr_measure_32 : decode prog_1_method_31_code 32 = .ok (.invokevirtual 223, 3) := by decide +kernel
theorem dMr_measure_35 : decode prog_1_method_31_code 35 = .ok (.goto 25, 3) := by decide +kernel
theorem dMr_measure_38 : decode prog_1_method_31_code 38 = .ok (.aload_n 2, 1) := by decide +kernel
theorem dMr_measure_39 : decode prog_1_method_31_code 39 = .ok (.iload_n 1, 1) := by decide +kernel
theorem dMr_measure_40 : decode prog_1_method_31_code 40 = .ok (.ifCond .eq 13, 3) := by decide +kernel
theorem dMr_measure_43 : decode prog_1_method_31_code 43 = .ok (.aload_n 2, 1) := by decide +kernel
theorem dMr_measure_44 : decode prog_1_method_31_code 44 = .ok (.getfield 253, 3) := by decide +kernel
theorem dMr_measure_47 : decode prog_1_method_31_code 47 = .ok (.invokevirtual 257, 3) := by decide +kernel
theorem dMr_measure_50 : decode prog_1_method_31_code 50 = .ok (.goto 7, 3) := by decide +kernel
theorem dMr_measure_53 : decode prog_1_method_31_code 53 = .ok (.aload_n 2, 1) := by decide +kernel
theorem dMr_measure_54 : decode prog_1_method_31_code 54 = .ok (.getfield 250, 3) := by decide +kernel
theorem dMr_measure_57 : decode prog_1_method_31_code 57 = .ok (.invokevirtual 223, 3) := by decide +kernel
theorem dMr_measure_60 : decode prog_1_method_31_code 60 = .ok (.iconst 0, 1) := by decide +kernel
theorem dMr_measure_61 : decode prog_1_method_31_code 61 = .ok (.ireturn, 1) := by decide +kernel
abbrev qMr_measure (dC : Nat → ClassId) (dI : Nat → Nat → Nat) (dA : Nat → ClassId) (dS : Nat → Nat) (b : Nat) (tr : Int) (hg : Int) (wk : Int) (at_ : Int) (en : Int) (cm : Int) (rg : Int) (st0 : Int) (en0 : Int) (lg : Int) (tR : Int) (ngR : Int) (scR : Int) (lnR : Int) (uR : Int) (lu : Int) (ru : Int) (su : Int) (qu : Int) (pl : Int) (rv : Value) (si : Int → Nat) (D : Int → Int) (CR : Int → Int) (FR : Int → Int) (LF : Int → Int) (RF : Int → Int) (SF : Int → Int) (QF : Int → Int) (P : Int → Int) (vs : Nat → VS) (tp : Nat → TS) (st : AS) (zf : Int) (A : Nat → Prop) : Array Value → State → Outcome → State → Prop := QI (dC, dI) vwCl (tyA dA) (fun (r : Int) (v_ : (Nat → VS)) => r = 0 ∧ (zf = 1 → CH si v_ hg wk (lenA st).2) ∧ (zf = 0 → CH si v_ hg wk (xscA st).2)) (fun (v_ : (Nat → VS)) => wMr dA b tr hg wk at_ en cm rg st0 en0 lg tR ngR scR lnR uR lu ru su qu pl rv si D CR FR LF RF SF QF P (tl0 dA b v_ tp)) A
abbrev rmMr_measure : Room := { frames := 2, cells := 0, slots := 0, locals := 42 }
set_option maxRecDepth 100000 in
set_option maxHeartbeats 1000000 in
theorem cMr_measure (l : Launch) (dC : Nat → ClassId) (dI : Nat → Nat → Nat) (dA : Nat → ClassId) (dS : Nat → Nat) (b : Nat) (tr : Int) (hg : Int) (wk : Int) (at_ : Int) (en : Int) (cm : Int) (rg : Int) (st0 : Int) (en0 : Int) (lg : Int) (tR : Int) (ngR : Int) (scR : Int) (lnR : Int) (uR : Int) (lu : Int) (ru : Int) (su : Int) (qu : Int) (pl : Int) (rv : Value) (si : Int → Nat) (D : Int → Int) (CR : Int → Int) (FR : Int → Int) (LF : Int → Int) (RF : Int → Int) (SF : Int → Int) (QF : Int → Int) (P : Int → Int) (vs : Nat → VS) (tp : Nat → TS) (st : AS) (zf : Int) (hCH : CH si vs hg wk st) (hg1_ : 1 ≤ hg) (hzf : zf = 0 ∨ zf = 1) (sz : Nat) : Met l yMr_measure wsMr_measure rmMr_measure (PC (dC, dI) vwCl (tyA dA) (XC dS) [.ref b, .int (iI zf)] (wMr dA b tr hg wk at_ en cm rg st0 en0 lg tR ngR scR lnR uR lu ru su qu pl rv si D CR FR LF RF SF QF P (tl0 dA b vs tp)) sz) (qMr_measure dC dI dA dS b tr hg wk at_ en cm rg st0 en0 lg tR ngR scR lnR uR lu ru su qu pl rv si D CR FR LF RF SF QF P vs tp st zf (va_A (wMr dA b tr hg wk at_ en cm rg st0 en0 lg tR ngR scR lnR uR lu ru su qu pl rv si D CR FR LF RF SF QF P (tl0 dA b vs tp)) sz)) 0 0 (va_A (wMr dA b tr hg wk at_ en cm rg st0 en0 lg tR ngR scR lnR uR lu ru su qu pl rv si D CR FR LF RF SF QF P (tl0 dA b vs tp)) sz) := by
  refine met_of (cc := prog_1_method_31_code) (maxL := 3) (ret := (some .int)) (Qc := qMr_measure dC dI dA dS b tr hg wk at_ en cm rg st0 en0 lg tR ngR scR lnR uR lu ru su qu pl rv si D CR FR LF RF SF QF P vs tp st zf) (XC_ok dS) (by decide) rfl (Nat.le_of_ble_eq_true rfl) ?_
  intro p e s m below meth c ls A hx hb hr hml hown hts hlocks hnm hK hP hD hA hX hS hl
  have hl : lv_has ls 3 [(0, .ref b), (1, .int (iI zf))] := hl
  have hown : s.vm.findClass "MacroReckoner" = some m.cls := hown
  obtain ⟨H, hH⟩ : ∃ H : Heap, H = s.heap := ⟨_, rfl⟩
  obtain ⟨locs, hlo⟩ : ∃ L : List Loc, L = [] := ⟨_, rfl⟩
  have hP : va_P (dC, dI) vwCl (wMr dA b tr hg wk at_ en cm rg st0 en0 lg tR ngR scR lnR uR lu ru su qu pl rv si D CR FR LF RF SF QF P (tl0 dA b vs tp)) H := hH ▸ hP
  have hS : va_S A s.heap H locs := by rw [hH, hlo]; exact hS
  suffices hgo : W p l e rmMr_measure s m [.ref b, .int (iI zf)].toArray below meth c H locs 0 0 (MQ below (qMr_measure dC dI dA dS b tr hg wk at_ en cm rg st0 en0 lg tR ngR scR lnR uR lu ru su qu pl rv si D CR FR LF RF SF QF P vs tp st zf A) [.ref b, .int (iI zf)].toArray s 0 0 A) (F0 m 0 ls []) by rw [hH, hlo] at hgo; exact hgo
  clear hH hlo
  have hh := hCH.1
  have hs9 := hCH.2.2.1 (hg - 1) (by omega) (by omega)
  have hCV := hCH.2.2.2.2.2 (hg - 1) (by omega) (by omega)
  rw [show st.stk (hg - 1) = st.stk (st.h - 1) by rw [hh.1]] at hCV
  refine lv_aload_n hx hb dMr_measure_0 rfl (lv_at hl 0 rfl) ?_
  refine va_get (D := (dC, dI)) (ci := 6) (v := .ref (b + 5)) (C := "MacroReckoner") (T := TMr) (N := 11) hx hb hts inMr hown hK hP 0 rfl rfl 4 (by decide) (hts _ wt1_177) (fun _ h9 => h9) rfl dMr_measure_1 ?_
  refine lv_aload_n hx hb dMr_measure_4 rfl (lv_at hl 0 rfl) ?_
  refine va_get (D := (dC, dI)) (ci := 6) (v := .int (iI hg)) (C := "MacroReckoner") (T := TMr) (N := 11) hx hb hts inMr hown hK hP 0 rfl rfl 5 (by decide) (hts _ wt1_178) (fun _ h9 => h9) rfl dMr_measure_5 ?_
  refine lv_iconst (v := iI 1) hx hb dMr_measure_8 rfl ?_
  refine iv_isub hx hb dMr_measure_9 ?_
  refine iv_aald hx hb hK hP 5 4 rfl rfl (by decide) dMr_measure_10 (by omega) (by omega) ?_
  refine W.eq (g2 := F0 m 11 ls [.ref (b + 38 + 4 * si (hg - 1))]) rfl ?_
  obtain ⟨a1, e_a1⟩ : ∃ z : Nat, z = b + 38 + 4 * si (hg - 1) := ⟨_, rfl⟩
  rw [← e_a1]
  refine lv_astore_n (lv' := [(2, .ref a1), (0, .ref b), (1, .int (iI zf))]) hx hb dMr_measure_11 rfl hl (by decide) rfl (fun ls hl => ?_)
  obtain ⟨⟨tv, ngv, scv, lnv, uv, Cv, Fv⟩, e_vv⟩ : ∃ z : VS, z = vs (si (hg - 1)) := ⟨_, rfl⟩
  have hP := va_P_pm (wMr_p (fV1 (dA := dA) (b := b) (vs := vs) (tp := tp) (k := si (hg - 1)) (by omega))) hP
  have hD := va_D_pm (wMr_p (fV1 (dA := dA) (b := b) (vs := vs) (tp := tp) (k := si (hg - 1)) (by omega))) hD
  rw [← e_vv, ← e_a1] at hP hD
  have hP : va_P (dC, dI) vwCl (wMr dA b tr hg wk at_ en cm rg st0 en0 lg tR ngR scR lnR uR lu ru su qu pl rv si D CR FR LF RF SF QF P (wVx dA a1 tv ngv scv lnv uv Cv Fv (tV1 dA b vs tp (si (hg - 1))))) H := hP
  have hD : va_D A (wMr dA b tr hg wk at_ en cm rg st0 en0 lg tR ngR scR lnR uR lu ru su qu pl rv si D CR FR LF RF SF QF P (wVx dA a1 tv ngv scv lnv uv Cv Fv (tV1 dA b vs tp (si (hg - 1))))) := hD
  rw [← e_vv] at hCV
  obtain ⟨N9, hV9, hW9, ha1, ha2, ha3, ha4, ha5⟩ := hCV
  refine lv_aload_n hx hb dMr_measure_12 rfl (lv_at hl 0 rfl) ?_
  refine va_getN (D := (dC, dI)) (ci := 4) (v := .int (iI tv)) (C := "MacroReckoner$Value") (T := TVa) (N := 6) hx hb hts inVa hown hK hP 22 rfl rfl 0 (by decide) (va_Nw.use rfl (hX.1 ("MacroReckoner", 107, "MacroReckoner$Value", "text", "Z", "MacroReckoner") (List.mem_of_getElem? (i := 9) rfl))) (fun _ h9 => h9) rfl dMr_measure_13 ?_
  have hvv : VV tv ngv scv lnv Cv N9 := hV9
  obtain ⟨hv1, hv2, hv3, hv4, -, hv6, hv7, hv8, hv9⟩ := hvv
  have hb1 : (st.stk (st.h - 1)).t = tv := ha1
  have hb3 : (st.stk (st.h - 1)).sc = scv := ha3
  have hb4 : (st.stk (st.h - 1)).ln = lnv := ha4
  have hb2 : (st.stk (st.h - 1)).v = sg ngv N9 := ha2
  have hn0 := (WR_bd hW9).1
  refine iv_if_eq (tgt := 38) hx hb dMr_measure_16 (by decide) ⟨by omega, by omega⟩ (fun hc16 => ?_) (fun hc16 => ?_)
  · refine lv_aload_n hx hb dMr_measure_38 rfl (lv_at hl 0 rfl) ?_
    refine lv_iload_n hx hb dMr_measure_39 rfl (lv_at hl 2 rfl) ?_
    refine iv_if_eq (tgt := 53) hx hb dMr_measure_40 (by decide) ⟨by omega, by omega⟩ (fun hc40 => ?_) (fun hc40 => ?_)
    · refine lv_aload_n hx hb dMr_measure_53 rfl (lv_at hl 0 rfl) ?_
      refine va_getN (D := (dC, dI)) (ci := 4) (v := .int (iI scv)) (C := "MacroReckoner$Value") (T := TVa) (N := 6) hx hb hts inVa hown hK hP 22 rfl rfl 3 (by decide) (va_Nw.use rfl (hX.1 ("MacroReckoner", 250, "MacroReckoner$Value", "scale", "I", "MacroReckoner") (List.mem_of_getElem? (i := 18) rfl))) (fun _ h9 => h9) rfl dMr_measure_54 ?_
      refine cvT_v (we := wMr dA b tr hg wk at_ en cm rg st0 en0 lg tR ngR scR lnR uR lu ru su qu pl rv si D CR FR LF RF SF QF P (wVx dA a1 tv ngv scv lnv uv Cv Fv [])) (tl := tV1 dA b vs tp (si (hg - 1))) (va_runV (C := "MacroReckoner$Value") (As := [.int (iI scv)]) (rest := []) ⟨hx, hb, hml, hown, hts⟩ (cVa_becomeCount l dC dI dA a1 (a1 + 1) (a1 + 3) tv ngv scv Cv lnv (a1 + 2) Fv uv scv (by omega) H.size) (cwV 1 hts (gdV wt3_198 wt3_10 wt3_11 wt1_4 wt3_12) rfl rfl rfl ⟨rfl, by decide, by decide, by decide +kernel⟩ ⟨by decide, by decide⟩) (preV (q := ("MacroReckoner$Value", TVa, 6)) hK hP hD hS hA XN_ok trivial [22, 25, 23, 24] rfl rfl 0 rfl rfl) rfl rfl hl.1 rfl (lv_room (Nat.le_of_ble_eq_true rfl)) dMr_measure_57 ⟨Nat.zero_le _, Nat.zero_le _⟩) hP hD hS hA [22, 25, 23, 24] [0, 1, 2, 3, 4, 5, 6, 7, 8, 9, 10, 11, 12, 13, 14, 15, 16, 17, 18, 19, 20, 21] rfl (fun v_ => wMr dA b tr hg wk at_ en cm rg st0 en0 lg tR ngR scR lnR uR lu ru su qu pl rv si D CR FR LF RF SF QF P (wVx dA a1 0 0 0 0 v_.2 Cv v_.1 [])) (fun _ => rfl) (wMr dA b tr hg wk at_ en cm rg st0 en0 lg tR ngR scR lnR uR lu ru su qu pl rv si D CR FR LF RF SF QF P []) rfl (fun _ => rfl) [b, b + 1, b + 2, b + 3, b + 4, b + 5, b + 6, b + 7, b + 8, b + 9, b + 10, b + 11, b + 12, b + 13, b + 14, b + 15, b + 16, b + 17, b + 18, b + 19, b + 20, b + 21, a1, a1 + 1, a1 + 2, a1 + 3] rfl (fun _ => rfl) (fun _ => rfl) (fun u_ H locs hq57 hP hD hS => ?_)
      obtain ⟨F1_57, u1_57⟩ := u_
      have hP : va_P (dC, dI) vwCl (wMr dA b tr hg wk at_ en cm rg st0 en0 lg tR ngR scR lnR uR lu ru su qu pl rv si D CR FR LF RF SF QF P (wVx dA a1 0 0 0 0 u1_57 Cv F1_57 (tV1 dA b vs tp (si (hg - 1))))) H := hP
      have hD : va_D A (wMr dA b tr hg wk at_ en cm rg st0 en0 lg tR ngR scR lnR uR lu ru su qu pl rv si D CR FR LF RF SF QF P (wVx dA a1 0 0 0 0 u1_57 Cv F1_57 (tV1 dA b vs tp (si (hg - 1))))) := hD
      have hq57 : WR F1_57 u1_57 scv := hq57
      rw [e_a1] at hP hD
      have hP := va_P_pm (wMr_p (uV1 (dA := dA) (b := b) (vs := vs) (tp := tp) (k := si (hg - 1)) (v := (0, 0, 0, 0, u1_57, Cv, F1_57)) (by omega))) hP
      have hD := va_D_pm (wMr_p (uV1 (dA := dA) (b := b) (vs := vs) (tp := tp) (k := si (hg - 1)) (v := (0, 0, 0, 0, u1_57, Cv, F1_57)) (by omega))) hD
      have hP : va_P (dC, dI) vwCl (wMr dA b tr hg wk at_ en cm rg st0 en0 lg tR ngR scR lnR uR lu ru su qu pl rv si D CR FR LF RF SF QF P (tl0 dA b (upF vs (si (hg - 1)) (0, 0, 0, 0, u1_57, Cv, F1_57)) tp)) H := hP
      have hD : va_D A (wMr dA b tr hg wk at_ en cm rg st0 en0 lg tR ngR scR lnR uR lu ru su qu pl rv si D CR FR LF RF SF QF P (tl0 dA b (upF vs (si (hg - 1)) (0, 0, 0, 0, u1_57, Cv, F1_57)) tp)) := hD
      refine lv_iconst (v := iI 0) hx hb dMr_measure_60 rfl ?_
      exact rt_i hx hb hr hlocks hK hS dMr_measure_61 (upF vs (si (hg - 1)) (0, 0, 0, 0, u1_57, Cv, F1_57)) hP hD (show 0 = 0 ∧ (zf = 1 → CH si (upF vs (si (hg - 1)) (0, 0, 0, 0, u1_57, Cv, F1_57)) hg wk (lenA st).2) ∧ (zf = 0 → CH si (upF vs (si (hg - 1)) (0, 0, 0, 0, u1_57, Cv, F1_57)) hg wk (xscA st).2) from by refine ⟨rfl, fun z => ?_, fun z => ?_⟩; (first | omega | (rw [len_e (n := lnv) (by unfold thZ; rw [if_pos (by omega)]; exact hb4)]; exact CH_msr hCH (by omega) (CV_count (C := Cv) hq32 (by omega))) | (rw [len_e (n := r47) (by unfold thZ; rw [if_neg (by omega), hb2, show ab (sg ngv N9) = N9 from sg_abs hn0]; exact dln_e hq47)]; exact CH_msr hCH (by omega) (CV_count (C := Cv) hq57 (by omega)))); (first | omega | (rw [xsc_e (n := 0) (by omega)]; exact CH_msr hCH (by omega) (CV_count (C := Cv) hq32 (by omega))) | (rw [xsc_e hb3]; exact CH_msr hCH (by omega) (CV_count (C := Cv) hq57 (by omega)))))
    · refine lv_aload_n hx hb dMr_measure_43 rfl (lv_at hl 0 rfl) ?_
      refine va_getN (D := (dC, dI)) (ci := 4) (v := .ref (a1 + 1)) (C := "MacroReckoner$Value") (T := TVa) (N := 6) hx hb hts inVa hown hK hP 22 rfl rfl 1 (by decide) (va_Nw.use rfl (hX.1 ("MacroReckoner", 253, "MacroReckoner$Value", "whole", "LMacroReckoner$Whole;", "MacroReckoner") (List.mem_of_getElem? (i := 12) rfl))) (fun _ h9 => h9) rfl dMr_measure_44 ?_
      refine cvT_i (we := wMr dA b tr hg wk at_ en cm rg st0 en0 lg tR ngR scR lnR uR lu ru su qu pl rv si D CR FR LF RF SF QF P (wVx dA a1 tv ngv scv lnv uv Cv Fv [])) (tl := tV1 dA b vs tp (si (hg - 1))) (va_runV (C := "MacroReckoner$Whole") (As := []) (rest := [.ref a1]) ⟨hx, hb, hml, hown, hts⟩ (cWh_size l dC dI dA dS (a1 + 1) (a1 + 2) Fv uv N9 (by exact hW9) H.size) (cwV 0 hts (gdV wt3_203 wt3_31 wt3_32 wt1_5 wt3_33) rfl rfl rfl ⟨rfl, by decide, by decide, by decide +kernel⟩ ⟨by decide, by decide⟩) (preV (q := ("MacroReckoner$Whole", TWh, 2)) hK hP hD hS hA (XC_ok dS) hX [23, 24] rfl rfl 0 rfl rfl) rfl rfl hl.1 rfl (lv_room (Nat.le_of_ble_eq_true rfl)) dMr_measure_47 ⟨Nat.zero_le _, Nat.zero_le _⟩) hP hD hS hA [23, 24] [0, 1, 2, 3, 4, 5, 6, 7, 8, 9, 10, 11, 12, 13, 14, 15, 16, 17, 18, 19, 20, 21, 22, 25] rfl (fun v_ => wMr dA b tr hg wk at_ en cm rg st0 en0 lg tR ngR scR lnR uR lu ru su qu pl rv si D CR FR LF RF SF QF P (wVx dA a1 tv ngv scv lnv uv Cv Fv [])) (fun _ => rfl) (wMr dA b tr hg wk at_ en cm rg st0 en0 lg tR ngR scR lnR uR lu ru su qu pl rv si D CR FR LF RF SF QF P ((a1, .inr (4, [.int (iI tv), .ref (a1 + 1), .int (iI ngv), .int (iI scv), .ref (a1 + 3), .int (iI lnv)])) :: (a1 + 3, .inl (dA 1, 60, .inl (arI Cv))) :: [])) rfl (fun _ => rfl) [b, b + 1, b + 2, b + 3, b + 4, b + 5, b + 6, b + 7, b + 8, b + 9, b + 10, b + 11, b + 12, b + 13, b + 14, b + 15, b + 16, b + 17, b + 18, b + 19, b + 20, b + 21, a1, a1 + 1, a1 + 2, a1 + 3] rfl (fun _ => rfl) (fun _ => rfl) (fun r47 u_ H locs hq47 hP hD hS => ?_)
      have hP : va_P (dC, dI) vwCl (wMr dA b tr hg wk at_ en cm rg st0 en0 lg tR ngR scR lnR uR lu ru su qu pl rv si D CR FR LF RF SF QF P (wVx dA a1 tv ngv scv lnv uv Cv Fv (tV1 dA b vs tp (si (hg - 1))))) H := hP
      have hD : va_D A (wMr dA b tr hg wk at_ en cm rg st0 en0 lg tR ngR scR lnR uR lu ru su qu pl rv si D CR FR LF RF SF QF P (wVx dA a1 tv ngv scv lnv uv Cv Fv (tV1 dA b vs tp (si (hg - 1))))) := hD
      have hq47 : DL N9 r47 := hq47
      have hdl := WR_dl hW9 hq47
      refine lv_goto (tgt := 57) hx hb dMr_measure_50 (by decide) ?_
      refine cvT_v (we := wMr dA b tr hg wk at_ en cm rg st0 en0 lg tR ngR scR lnR uR lu ru su qu pl rv si D CR FR LF RF SF QF P (wVx dA a1 tv ngv scv lnv uv Cv Fv [])) (tl := tV1 dA b vs tp (si (hg - 1))) (va_runV (C := "MacroReckoner$Value") (As := [.int (iI r47)]) (rest := []) ⟨hx, hb, hml, hown, hts⟩ (cVa_becomeCount l dC dI dA a1 (a1 + 1) (a1 + 3) tv ngv scv Cv lnv (a1 + 2) Fv uv r47 (by omega) H.size) (cwV 1 hts (gdV wt3_198 wt3_10 wt3_11 wt1_4 wt3_12) rfl rfl rfl ⟨rfl, by decide, by decide, by decide +kernel⟩ ⟨by decide, by decide⟩) (preV (q := ("MacroReckoner$Value", TVa, 6)) hK hP hD hS hA XN_ok trivial [22, 25, 23, 24] rfl rfl 0 rfl rfl) rfl rfl hl.1 rfl (lv_room (Nat.le_of_ble_eq_true rfl)) dMr_measure_57 ⟨Nat.zero_le _, Nat.zero_le _⟩) hP hD hS hA [22, 25, 23, 24] [0, 1, 2, 3, 4, 5, 6, 7, 8, 9, 10, 11, 12, 13, 14, 15, 16, 17, 18, 19, 20, 21] rfl (fun v_ => wMr dA b tr hg wk at_ en cm rg st0 en0 lg tR ngR scR lnR uR lu ru su qu pl rv si D CR FR LF RF SF QF P (wVx dA a1 0 0 0 0 v_.2 Cv v_.1 [])) (fun _ => rfl) (wMr dA b tr hg wk at_ en cm rg st0 en0 lg tR ngR scR lnR uR lu ru su qu pl rv si D CR FR LF RF SF QF P []) rfl (fun _ => rfl) [b, b + 1, b + 2, b + 3, b + 4, b + 5, b + 6, b + 7, b + 8, b + 9, b + 10, b + 11, b + 12, b + 13, b + 14, b + 15, b + 16, b + 17, b + 18, b + 19, b + 20, b + 21, a1, a1 + 1, a1 + 2, a1 + 3] rfl (fun _ => rfl) (fun _ => rfl) (fun u_ H locs hq57 hP hD hS => ?_)
      obtain ⟨F1_57, u1_57⟩ := u_
      have hP : va_P (dC, dI) vwCl (wMr dA b tr hg wk at_ en cm rg st0 en0 lg tR ngR scR lnR uR lu ru su qu pl rv si D CR FR LF RF SF QF P (wVx dA a1 0 0 0 0 u1_57 Cv F1_57 (tV1 dA b vs tp (si (hg - 1))))) H := hP
      have hD : va_D A (wMr dA b tr hg wk at_ en cm rg st0 en0 lg tR ngR scR lnR uR lu ru su qu pl rv si D CR FR LF RF SF QF P (wVx dA a1 0 0 0 0 u1_57 Cv F1_57 (tV1 dA b vs tp (si (hg - 1))))) := hD
      have hq57 : WR F1_57 u1_57 r47 := hq57
      rw [e_a1] at hP hD
      have hP := va_P_pm (wMr_p (uV1 (dA := dA) (b := b) (vs := vs) (tp := tp) (k := si (hg - 1)) (v := (0, 0, 0, 0, u1_57, Cv, F1_57)) (by omega))) hP
      have hD := va_D_pm (wMr_p (uV1 (dA := dA) (b := b) (vs := vs) (tp := tp) (k := si (hg - 1)) (v := (0, 0, 0, 0, u1_57, Cv, F1_57)) (by omega))) hD
      have hP : va_P (dC, dI) vwCl (wMr dA b tr hg wk at_ en cm rg st0 en0 lg tR ngR scR lnR uR lu ru su qu pl rv si D CR FR LF RF SF QF P (tl0 dA b (upF vs (si (hg - 1)) (0, 0, 0, 0, u1_57, Cv, F1_57)) tp)) H := hP
      have hD : va_D A (wMr dA b tr hg wk at_ en cm rg st0 en0 lg tR ngR scR lnR uR lu ru su qu pl rv si D CR FR LF RF SF QF P (tl0 dA b (upF vs (si (hg - 1)) (0, 0, 0, 0, u1_57, Cv, F1_57)) tp)) := hD
      refine lv_iconst (v := iI 0) hx hb dMr_measure_60 rfl ?_
      exact rt_i hx hb hr hlocks hK hS dMr_measure_61 (upF vs (si (hg - 1)) (0, 0, 0, 0, u1_57, Cv, F1_57)) hP hD (show 0 = 0 ∧ (zf = 1 → CH si (upF vs (si (hg - 1)) (0, 0, 0, 0, u1_57, Cv, F1_57)) hg wk (lenA st).2) ∧ (zf = 0 → CH si (upF vs (si (hg - 1)) (0, 0, 0, 0, u1_57, Cv, F1_57)) hg wk (xscA st).2) from by refine ⟨rfl, fun z => ?_, fun z => ?_⟩; (first | omega | (rw [len_e (n := lnv) (by unfold thZ; rw [if_pos (by omega)]; exact hb4)]; exact CH_msr hCH (by omega) (CV_count (C := Cv) hq32 (by omega))) | (rw [len_e (n := r47) (by unfold thZ; rw [if_neg (by omega), hb2, show ab (sg ngv N9) = N9 from sg_abs hn0]; exact dln_e hq47)]; exact CH_msr hCH (by omega) (CV_count (C := Cv) hq57 (by omega)))); (first | omega | (rw [xsc_e (n := 0) (by omega)]; exact CH_msr hCH (by omega) (CV_count (C := Cv) hq32 (by omega))) | (rw [xsc_e hb3]; exact CH_msr hCH (by omega) (CV_count (C := Cv) hq57 (by omega)))))
  · refine lv_aload_n hx hb dMr_measure_19 rfl (lv_at hl 0 rfl) ?_
    refine lv_iload_n hx hb dMr_measure_20 rfl (lv_at hl 2 rfl) ?_
    refine iv_if_eq (tgt := 31) hx hb dMr_measure_21 (by decide) ⟨by omega, by omega⟩ (fun hc21 => ?_) (fun hc21 => ?_)
    · refine lv_iconst (v := iI 0) hx hb dMr_measure_31 rfl ?_
      refine cvT_v (we := wMr dA b tr hg wk at_ en cm rg st0 en0 lg tR ngR scR lnR uR lu ru su qu pl rv si D CR FR LF RF SF QF P (wVx dA a1 tv ngv scv lnv uv Cv Fv [])) (tl := tV1 dA b vs tp (si (hg - 1))) (va_runV (C := "MacroReckoner$Value") (As := [.int (iI 0)]) (rest := []) ⟨hx, hb, hml, hown, hts⟩ (cVa_becomeCount l dC dI dA a1 (a1 + 1) (a1 + 3) tv ngv scv Cv lnv (a1 + 2) Fv uv 0 (by omega) H.size) (cwV 1 hts (gdV wt3_198 wt3_10 wt3_11 wt1_4 wt3_12) rfl rfl rfl ⟨rfl, by decide, by decide, by decide +kernel⟩ ⟨by decide, by decide⟩) (preV (q := ("MacroReckoner$Value", TVa, 6)) hK hP hD hS hA XN_ok trivial [22, 25, 23, 24] rfl rfl 0 rfl rfl) rfl rfl hl.1 rfl (lv_room (Nat.le_of_ble_eq_true rfl)) dMr_measure_32 ⟨Nat.zero_le _, Nat.zero_le _⟩) hP hD hS hA [22, 25, 23, 24] [0, 1, 2, 3, 4, 5, 6, 7, 8, 9, 10, 11, 12, 13, 14, 15, 16, 17, 18, 19, 20, 21] rfl (fun v_ => wMr dA b tr hg wk at_ en cm rg st0 en0 lg tR ngR scR lnR uR lu ru su qu pl rv si D CR FR LF RF SF QF P (wVx dA a1 0 0 0 0 v_.2 Cv v_.1 [])) (fun _ => rfl) (wMr dA b tr hg wk at_ en cm rg st0 en0 lg tR ngR scR lnR uR lu ru su qu pl rv si D CR FR LF RF SF QF P []) rfl (fun _ => rfl) [b, b + 1, b + 2, b + 3, b + 4, b + 5, b + 6, b + 7, b + 8, b + 9, b + 10, b + 11, b + 12, b + 13, b + 14, b + 15, b + 16, b + 17, b + 18, b + 19, b + 20, b + 21, a1, a1 + 1, a1 + 2, a1 + 3] rfl (fun _ => rfl) (fun _ => rfl) (fun u_ H locs hq32 hP hD hS => ?_)
      obtain ⟨F1_32, u1_32⟩ := u_
      have hP : va_P (dC, dI) vwCl (wMr dA b tr hg wk at_ en cm rg st0 en0 lg tR ngR scR lnR uR lu ru su qu pl rv si D CR FR LF RF SF QF P (wVx dA a1 0 0 0 0 u1_32 Cv F1_32 (tV1 dA b vs tp (si (hg - 1))))) H := hP
      have hD : va_D A (wMr dA b tr hg wk at_ en cm rg st0 en0 lg tR ngR scR lnR uR lu ru su qu pl rv si D CR FR LF RF SF QF P (wVx dA a1 0 0 0 0 u1_32 Cv F1_32 (tV1 dA b vs tp (si (hg - 1))))) := hD
      have hq32 : WR F1_32 u1_32 0 := hq32
      refine lv_goto (tgt := 60) hx hb dMr_measure_35 (by decide) ?_
      rw [e_a1] at hP hD
      have hP := va_P_pm (wMr_p (uV1 (dA := dA) (b := b) (vs := vs) (tp := tp) (k := si (hg - 1)) (v := (0, 0, 0, 0, u1_32, Cv, F1_32)) (by omega))) hP
      have hD := va_D_pm (wMr_p (uV1 (dA := dA) (b := b) (vs := vs) (tp := tp) (k := si (hg - 1)) (v := (0, 0, 0, 0, u1_32, Cv, F1_32)) (by omega))) hD
      have hP : va_P (dC, dI) vwCl (wMr dA b tr hg wk at_ en cm rg st0 en0 lg tR ngR scR lnR uR lu ru su qu pl rv si D CR FR LF RF SF QF P (tl0 dA b (upF vs (si (hg - 1)) (0, 0, 0, 0, u1_32, Cv, F1_32)) tp)) H := hP
      have hD : va_D A (wMr dA b tr hg wk at_ en cm rg st0 en0 lg tR ngR scR lnR uR lu ru su qu pl rv si D CR FR LF RF SF QF P (tl0 dA b (upF vs (si (hg - 1)) (0, 0, 0, 0, u1_32, Cv, F1_32)) tp)) := hD
      refine lv_iconst (v := iI 0) hx hb dMr_measure_60 rfl ?_
      exact rt_i hx hb hr hlocks hK hS dMr_measure_61 (upF vs (si (hg - 1)) (0, 0, 0, 0, u1_32, Cv, F1_32)) hP hD (show 0 = 0 ∧ (zf = 1 → CH si (upF vs (si (hg - 1)) (0, 0, 0, 0, u1_32, Cv, F1_32)) hg wk (lenA st).2) ∧ (zf = 0 → CH si (upF vs (si (hg - 1)) (0, 0, 0, 0, u1_32, Cv, F1_32)) hg wk (xscA st).2) from by refine ⟨rfl, fun z => ?_, fun z => ?_⟩; (first | omega | (rw [len_e (n := lnv) (by unfold thZ; rw [if_pos (by omega)]; exact hb4)]; exact CH_msr hCH (by omega) (CV_count (C := Cv) hq32 (by omega))) | (rw [len_e (n := r47) (by unfold thZ; rw [if_neg (by omega), hb2, show ab (sg ngv N9) = N9 from sg_abs hn0]; exact dln_e hq47)]; exact CH_msr hCH (by omega) (CV_count (C := Cv) hq57 (by omega)))); (first | omega | (rw [xsc_e (n := 0) (by omega)]; exact CH_msr hCH (by omega) (CV_count (C := Cv) hq32 (by omega))) | (rw [xsc_e hb3]; exact CH_msr hCH (by omega) (CV_count (C := Cv) hq57 (by omega)))))
    · refine lv_aload_n hx hb dMr_measure_24 rfl (lv_at hl 0 rfl) ?_
      refine va_getN (D := (dC, dI)) (ci := 4) (v := .int (iI lnv)) (C := "MacroReckoner$Value") (T := TVa) (N := 6) hx hb hts inVa hown hK hP 22 rfl rfl 5 (by decide) (va_Nw.use rfl (hX.1 ("MacroReckoner", 278, "MacroReckoner$Value", "length", "I", "MacroReckoner") (List.mem_of_getElem? (i := 22) rfl))) (fun _ h9 => h9) rfl dMr_measure_25 ?_
      refine lv_goto (tgt := 32) hx hb dMr_measure_28 (by decide) ?_
      refine cvT_v (we := wMr dA b tr hg wk at_ en cm rg st0 en0 lg tR ngR scR lnR uR lu ru su qu pl rv si D CR FR LF RF SF QF P (wVx dA a1 tv ngv scv lnv uv Cv Fv [])) (tl := tV1 dA b vs tp (si (hg - 1))) (va_runV (C := "MacroReckoner$Value") (As := [.int (iI lnv)]) (rest := []) ⟨hx, hb, hml, hown, hts⟩ (cVa_becomeCount l dC dI dA a1 (a1 + 1) (a1 + 3) tv ngv scv Cv lnv (a1 + 2) Fv uv lnv (by omega) H.size) (cwV 1 hts (gdV wt3_198 wt3_10 wt3_11 wt1_4 wt3_12) rfl rfl rfl ⟨rfl, by decide, by decide, by decide +kernel⟩ ⟨by decide, by decide⟩) (preV (q := ("MacroReckoner$Value", TVa, 6)) hK hP hD hS hA XN_ok trivial [22, 25, 23, 24] rfl rfl 0 rfl rfl) rfl rfl hl.1 rfl (lv_room (Nat.le_of_ble_eq_true rfl)) dMr_measure_32 ⟨Nat.zero_le _, Nat.zero_le _⟩) hP hD hS hA [22, 25, 23, 24] [0, 1, 2, 3, 4, 5, 6, 7, 8, 9, 10, 11, 12, 13, 14, 15, 16, 17, 18, 19, 20, 21] rfl (fun v_ => wMr dA b tr hg wk at_ en cm rg st0 en0 lg tR ngR scR lnR uR lu ru su qu pl rv si D CR FR LF RF SF QF P (wVx dA a1 0 0 0 0 v_.2 Cv v_.1 [])) (fun _ => rfl) (wMr dA b tr hg wk at_ en cm rg st0 en0 lg tR ngR scR lnR uR lu ru su qu pl rv si D CR FR LF RF SF QF P []) rfl (fun _ => rfl) [b, b + 1, b + 2, b + 3, b + 4, b + 5, b + 6, b + 7, b + 8, b + 9, b + 10, b + 11, b + 12, b + 13, b + 14, b + 15, b + 16, b + 17, b + 18, b + 19, b + 20, b + 21, a1, a1 + 1, a1 + 2, a1 + 3] rfl (fun _ => rfl) (fun _ => rfl) (fun u_ H locs hq32 hP hD hS => ?_)
      obtain ⟨F1_32, u1_32⟩ := u_
      have hP : va_P (dC, dI) vwCl (wMr dA b tr hg wk at_ en cm rg st0 en0 lg tR ngR scR lnR uR lu ru su qu pl rv si D CR FR LF RF SF QF P (wVx dA a1 0 0 0 0 u1_32 Cv F1_32 (tV1 dA b vs tp (si (hg - 1))))) H := hP
      have hD : va_D A (wMr dA b tr hg wk at_ en cm rg st0 en0 lg tR ngR scR lnR uR lu ru su qu pl rv si D CR FR LF RF SF QF P (wVx dA a1 0 0 0 0 u1_32 Cv F1_32 (tV1 dA b vs tp (si (hg - 1))))) := hD
      have hq32 : WR F1_32 u1_32 lnv := hq32
      refine lv_goto (tgt := 60) hx hb dMr_measure_35 (by decide) ?_
      rw [e_a1] at hP hD
      have hP := va_P_pm (wMr_p (uV1 (dA := dA) (b := b) (vs := vs) (tp := tp) (k := si (hg - 1)) (v := (0, 0, 0, 0, u1_32, Cv, F1_32)) (by omega))) hP
      have hD := va_D_pm (wMr_p (uV1 (dA := dA) (b := b) (vs := vs) (tp := tp) (k := si (hg - 1)) (v := (0, 0, 0, 0, u1_32, Cv, F1_32)) (by omega))) hD
      have hP : va_P (dC, dI) vwCl (wMr dA b tr hg wk at_ en cm rg st0 en0 lg tR ngR scR lnR uR lu ru su qu pl rv si D CR FR LF RF SF QF P (tl0 dA b (upF vs (si (hg - 1)) (0, 0, 0, 0, u1_32, Cv, F1_32)) tp)) H := hP
      have hD : va_D A (wMr dA b tr hg wk at_ en cm rg st0 en0 lg tR ngR scR lnR uR lu ru su qu pl rv si D CR FR LF RF SF QF P (tl0 dA b (upF vs (si (hg - 1)) (0, 0, 0, 0, u1_32, Cv, F1_32)) tp)) := hD
      refine lv_iconst (v := iI 0) hx hb dMr_measure_60 rfl ?_
      exact rt_i hx hb hr hlocks hK hS dMr_measure_61 (upF vs (si (hg - 1)) (0, 0, 0, 0, u1_32, Cv, F1_32)) hP hD (show 0 = 0 ∧ (zf = 1 → CH si (upF vs (si (hg - 1)) (0, 0, 0, 0, u1_32, Cv, F1_32)) hg wk (lenA st).2) ∧ (zf = 0 → CH si (upF vs (si (hg - 1)) (0, 0, 0, 0, u1_32, Cv, F1_32)) hg wk (xscA st).2) from by refine ⟨rfl, fun z => ?_, fun z => ?_⟩; (first | omega | (rw [len_e (n := lnv) (by unfold thZ; rw [if_pos (by omega)]; exact hb4)]; exact CH_msr hCH (by omega) (CV_count (C := Cv) hq32 (by omega))) | (rw [len_e (n := r47) (by unfold thZ; rw [if_neg (by omega), hb2, show ab (sg ngv N9) = N9 from sg_abs hn0]; exact dln_e hq47)]; exact CH_msr hCH (by omega) (CV_count (C := Cv) hq57 (by omega)))); (first | omega | (rw [xsc_e (n := 0) (by omega)]; exact CH_msr hCH (by omega) (CV_count (C := Cv) hq32 (by omega))) | (rw [xsc_e hb3]; exact CH_msr hCH (by omega) (CV_count (C := Cv) hq57 (by omega)))))

theorem dMr_store_0 : decode prog_1_method_32_code 0 = .ok (.aload_n 1, 1) := by decide +kernel
theorem dMr_store_1 : decode prog_1_method_32_code 1 = .ok (.aload_n 0, 1) := by decide +kernel
theorem dMr_store_2 : decode prog_1_method_32_code 2 = .ok (.getfield 35, 3) := by decide +kernel
theorem dMr_store_5 : decode prog_1_method_32_code 5 = .ok (.aload_n 0, 1) := by decide +kernel
theorem dMr_store_6 : decode prog_1_method_32_code 6 = .ok (.getfield 39, 3) := by decide +kernel
theorem dMr_store_9 : decode prog_1_method_32_code 9 = .ok (.iconst 1, 1) := by decide +kernel
theorem dMr_store_10 : decode prog_1_method_32_code 10 = .ok (.isub, 1) := by decide +kernel
theorem dMr_store_11 : decode prog_1_method_32_code 11 = .ok (.aaload, 1) := by decide +kernel
theorem dMr_store_12 : decode prog_1_method_32_code 12 = .ok (.invokevirtual 206, 3) := by decide +kernel
theorem dMr_store_15 : decode prog_1_method_32_code 15 = .ok (.aload_n 0, 1) := by decide +kernel
theorem dMr_store_16 : decode prog_1_method_32_code 16 = .ok (.dup, 1) := by decide +kernel
theorem dMr_store_17 : decode prog_1_method_32_code 17 = .ok (.getfield 39, 3) := by decide +kernel
theorem dMr_store_20 : decode prog_1_method_32_code 20 = .ok (.iconst 1, 1) := by decide +kernel
theorem dMr_store_21 : decode prog_1_method_32_code 21 = .ok (.isub, 1) := by decide +kernel
theorem dMr_store_22 : decode prog_1_method_32_code 22 = .ok (.putfield 39, 3) := by decide +kernel
theorem dMr_store_25 : decode prog_1_method_32_code 25 = .ok (.iconst 0, 1) := by decide +kernel
theorem dMr_store_26 : decode prog_1_method_32_code 26 = .ok (.ireturn, 1) := by decide +kernel
abbrev qMr_store (dC : Nat → ClassId) (dI : Nat → Nat → Nat) (dA : Nat → ClassId) (dS : Nat → Nat) (b : Nat) (tr : Int) (hg : Int) (wk : Int) (at_ : Int) (en : Int) (cm : Int) (rg : Int) (st0 : Int) (en0 : Int) (lg : Int) (tR : Int) (ngR : Int) (scR : Int) (lnR : Int) (uR : Int) (lu : Int) (ru : Int) (su : Int) (qu : Int) (pl : Int) (rv : Value) (si : Int → Nat) (D : Int → Int) (CR : Int → Int) (FR : Int → Int) (LF : Int → Int) (RF : Int → Int) (SF : Int → Int) (QF : Int → Int) (P : Int → Int) (vs : Nat → VS) (tp : Nat → TS) (st : AS) (rx : Int) (A : Nat → Prop) : Array Value → State → Outcome → State → Prop := QI (dC, dI) vwCl (tyA dA) (fun (r : Int) (v_ : (Nat → VS)) => r = 0 ∧ CH si v_ (hg - 1) wk (stoA st rx).2) (fun (v_ : (Nat → VS)) => wMr dA b tr (hg - 1) wk at_ en cm rg st0 en0 lg tR ngR scR lnR uR lu ru su qu pl rv si D CR FR LF RF SF QF P (tl0 dA b v_ tp)) A
abbrev rmMr_store : Room := { frames := 3, cells := 0, slots := 0, locals := 102 }
set_option maxRecDepth 100000 in
set_option maxHeartbeats 1000000 in
theorem cMr_store (l : Launch) (dC : Nat → ClassId) (dI : Nat → Nat → Nat) (dA : Nat → ClassId) (dS : Nat → Nat) (b : Nat) (tr : Int) (hg : Int) (wk : Int) (at_ : Int) (en : Int) (cm : Int) (rg : Int) (st0 : Int) (en0 : Int) (lg : Int) (tR : Int) (ngR : Int) (scR : Int) (lnR : Int) (uR : Int) (lu : Int) (ru : Int) (su : Int) (qu : Int) (pl : Int) (rv : Value) (si : Int → Nat) (D : Int → Int) (CR : Int → Int) (FR : Int → Int) (LF : Int → Int) (RF : Int → Int) (SF : Int → Int) (QF : Int → Int) (P : Int → Int) (vs : Nat → VS) (tp : Nat → TS) (st : AS) (rx : Int) (hCH : CH si vs hg wk st) (hg1_ : 1 ≤ hg) (hrx : 0 ≤ rx ∧ rx < 26) (sz : Nat) : Met l yMr_store wsMr_store rmMr_store (PC (dC, dI) vwCl (tyA dA) (XC dS) [.ref b, .ref (b + 38 + 4 * (20 + (rx).toNat))] (wMr dA b tr hg wk at_ en cm rg st0 en0 lg tR ngR scR lnR uR lu ru su qu pl rv si D CR FR LF RF SF QF P (tl0 dA b vs tp)) sz) (qMr_store dC dI dA dS b tr hg wk at_ en cm rg st0 en0 lg tR ngR scR lnR uR lu ru su qu pl rv si D CR FR LF RF SF QF P vs tp st rx (va_A (wMr dA b tr hg wk at_ en cm rg st0 en0 lg tR ngR scR lnR uR lu ru su qu pl rv si D CR FR LF RF SF QF P (tl0 dA b vs tp)) sz)) 0 0 (va_A (wMr dA b tr hg wk at_ en cm rg st0 en0 lg tR ngR scR lnR uR lu ru su qu pl rv si D CR FR LF RF SF QF P (tl0 dA b vs tp)) sz) := by
  refine met_of (cc := prog_1_method_32_code) (maxL := 2) (ret := (some .int)) (Qc := qMr_store dC dI dA dS b tr hg wk at_ en cm rg st0 en0 lg tR ngR scR lnR uR lu ru su qu pl rv si D CR FR LF RF SF QF P vs tp st rx) (XC_ok dS) (by decide) rfl (Nat.le_of_ble_eq_true rfl) ?_
  intro p e s m below meth c ls A hx hb hr hml hown hts hlocks hnm hK hP hD hA hX hS hl
  have hl : lv_has ls 2 [(0, .ref b), (1, .ref (b + 38 + 4 * (20 + (rx).toNat)))] := hl
  have hown : s.vm.findClass "MacroReckoner" = some m.cls := hown
  obtain ⟨H, hH⟩ : ∃ H : Heap, H = s.heap := ⟨_, rfl⟩
  obtain ⟨locs, hlo⟩ : ∃ L : List Loc, L = [] := ⟨_, rfl⟩
  have hP : va_P (dC, dI) vwCl (wMr dA b tr hg wk at_ en cm rg st0 en0 lg tR ngR scR lnR uR lu ru su qu pl rv si D CR FR LF RF SF QF P (tl0 dA b vs tp)) H := hH ▸ hP
  have hS : va_S A s.heap H locs := by rw [hH, hlo]; exact hS
  suffices hgo : W p l e rmMr_store s m [.ref b, .ref (b + 38 + 4 * (20 + (rx).toNat))].toArray below meth c H locs 0 0 (MQ below (qMr_store dC dI dA dS b tr hg wk at_ en cm rg st0 en0 lg tR ngR scR lnR uR lu ru su qu pl rv si D CR FR LF RF SF QF P vs tp st rx A) [.ref b, .ref (b + 38 + 4 * (20 + (rx).toNat))].toArray s 0 0 A) (F0 m 0 ls []) by rw [hH, hlo] at hgo; exact hgo
  clear hH hlo
  have hh := hCH.1
  have hs9 := hCH.2.2.1 (hg - 1) (by omega) (by omega)
  have hCV := hCH.2.2.2.2.2 (hg - 1) (by omega) (by omega)
  rw [show st.stk (hg - 1) = st.stk (st.h - 1) by rw [hh.1]] at hCV
  refine lv_aload_n hx hb dMr_store_0 rfl (lv_at hl 1 rfl) ?_
  refine lv_aload_n hx hb dMr_store_1 rfl (lv_at hl 0 rfl) ?_
  refine va_get (D := (dC, dI)) (ci := 6) (v := .ref (b + 5)) (C := "MacroReckoner") (T := TMr) (N := 11) hx hb hts inMr hown hK hP 0 rfl rfl 4 (by decide) (hts _ wt1_177) (fun _ h9 => h9) rfl dMr_store_2 ?_
  refine lv_aload_n hx hb dMr_store_5 rfl (lv_at hl 0 rfl) ?_
  refine va_get (D := (dC, dI)) (ci := 6) (v := .int (iI hg)) (C := "MacroReckoner") (T := TMr) (N := 11) hx hb hts inMr hown hK hP 0 rfl rfl 5 (by decide) (hts _ wt1_178) (fun _ h9 => h9) rfl dMr_store_6 ?_
  refine lv_iconst (v := iI 1) hx hb dMr_store_9 rfl ?_
  refine iv_isub hx hb dMr_store_10 ?_
  refine iv_aald hx hb hK hP 5 4 rfl rfl (by decide) dMr_store_11 (by omega) (by omega) ?_
  refine W.eq (g2 := F0 m 12 ls [.ref (b + 38 + 4 * si (hg - 1)), .ref (b + 38 + 4 * (20 + (rx).toNat))]) rfl ?_
  obtain ⟨a1, e_a1⟩ : ∃ z : Nat, z = b + 38 + 4 * si (hg - 1) := ⟨_, rfl⟩
  rw [← e_a1]
  obtain ⟨⟨tu, ngu, scu, lnu, uu, Cu, Fu⟩, e_vu⟩ : ∃ z : VS, z = vs (20 + (rx).toNat) := ⟨_, rfl⟩
  obtain ⟨⟨tv, ngv, scv, lnv, uv, Cv, Fv⟩, e_vv⟩ : ∃ z : VS, z = vs (si (hg - 1)) := ⟨_, rfl⟩
  have hP := va_P_pm (wMr_p (fV2 (dA := dA) (b := b) (vs := vs) (tp := tp) (k := 20 + (rx).toNat) (j := si (hg - 1)) (by omega) (by omega) (by omega))) hP
  have hD := va_D_pm (wMr_p (fV2 (dA := dA) (b := b) (vs := vs) (tp := tp) (k := 20 + (rx).toNat) (j := si (hg - 1)) (by omega) (by omega) (by omega))) hD
  rw [← e_vu, ← e_vv, ← e_a1] at hP hD
  have hP : va_P (dC, dI) vwCl (wMr dA b tr hg wk at_ en cm rg st0 en0 lg tR ngR scR lnR uR lu ru su qu pl rv si D CR FR LF RF SF QF P (wVx dA (b + 38 + 4 * (20 + (rx).toNat)) tu ngu scu lnu uu Cu Fu (wVx dA a1 tv ngv scv lnv uv Cv Fv (tV2 dA b vs tp (20 + (rx).toNat) (si (hg - 1)))))) H := hP
  have hD : va_D A (wMr dA b tr hg wk at_ en cm rg st0 en0 lg tR ngR scR lnR uR lu ru su qu pl rv si D CR FR LF RF SF QF P (wVx dA (b + 38 + 4 * (20 + (rx).toNat)) tu ngu scu lnu uu Cu Fu (wVx dA a1 tv ngv scv lnv uv Cv Fv (tV2 dA b vs tp (20 + (rx).toNat) (si (hg - 1)))))) := hD
  rw [← e_vv] at hCV
  obtain ⟨N9, hV9, hW9, ha1, ha2, ha3, ha4, ha5⟩ := hCV
  refine cvT_v (we := wMr dA b tr hg wk at_ en cm rg st0 en0 lg tR ngR scR lnR uR lu ru su qu pl rv si D CR FR LF RF SF QF P (wVx dA (b + 38 + 4 * (20 + (rx).toNat)) tu ngu scu lnu uu Cu Fu (wVx dA a1 tv ngv scv lnv uv Cv Fv []))) (tl := tV2 dA b vs tp (20 + (rx).toNat) (si (hg - 1))) (va_runV (C := "MacroReckoner$Value") (As := [.ref a1]) (rest := []) ⟨hx, hb, hml, hown, hts⟩ (cVa_become l dC dI dA (b + 38 + 4 * (20 + (rx).toNat)) ((b + 38 + 4 * (20 + (rx).toNat)) + 1) ((b + 38 + 4 * (20 + (rx).toNat)) + 3) tu ngu scu Cu lnu ((b + 38 + 4 * (20 + (rx).toNat)) + 2) Fu uu a1 (a1 + 1) (a1 + 3) tv ngv scv Cv lnv (a1 + 2) Fv uv N9 (by exact hV9) (by exact hW9) H.size) (cwV 1 hts (gdV wt3_40 wt3_41 wt3_42 wt1_4 wt3_43) rfl rfl rfl ⟨rfl, by decide, by decide, by decide +kernel⟩ ⟨by decide, by decide⟩) (preV (q := ("MacroReckoner$Value", TVa, 6)) hK hP hD hS hA XN_ok trivial [22, 25, 23, 24, 26, 29, 27, 28] rfl rfl 0 rfl rfl) rfl rfl hl.1 rfl (lv_room (Nat.le_of_ble_eq_true rfl)) dMr_store_12 ⟨Nat.zero_le _, Nat.zero_le _⟩) hP hD hS hA [22, 25, 23, 24, 26, 29, 27, 28] [0, 1, 2, 3, 4, 5, 6, 7, 8, 9, 10, 11, 12, 13, 14, 15, 16, 17, 18, 19, 20, 21] rfl (fun v_ => wMr dA b tr hg wk at_ en cm rg st0 en0 lg tR ngR scR lnR uR lu ru su qu pl rv si D CR FR LF RF SF QF P (wVx dA (b + 38 + 4 * (20 + (rx).toNat)) tv ngv scv lnv uv v_.2 v_.1 (wVx dA a1 tv ngv scv lnv uv Cv Fv []))) (fun _ => rfl) (wMr dA b tr hg wk at_ en cm rg st0 en0 lg tR ngR scR lnR uR lu ru su qu pl rv si D CR FR LF RF SF QF P []) rfl (fun _ => rfl) [b, b + 1, b + 2, b + 3, b + 4, b + 5, b + 6, b + 7, b + 8, b + 9, b + 10, b + 11, b + 12, b + 13, b + 14, b + 15, b + 16, b + 17, b + 18, b + 19, b + 20, b + 21, (b + 38 + 4 * (20 + (rx).toNat)), (b + 38 + 4 * (20 + (rx).toNat)) + 1, (b + 38 + 4 * (20 + (rx).toNat)) + 2, (b + 38 + 4 * (20 + (rx).toNat)) + 3, a1, a1 + 1, a1 + 2, a1 + 3] rfl (fun _ => rfl) (fun _ => rfl) (fun u_ H locs hq12 hP hD hS => ?_)
  obtain ⟨F1_12, C1_12⟩ := u_
  have hP : va_P (dC, dI) vwCl (wMr dA b tr hg wk at_ en cm rg st0 en0 lg tR ngR scR lnR uR lu ru su qu pl rv si D CR FR LF RF SF QF P (wVx dA (b + 38 + 4 * (20 + (rx).toNat)) tv ngv scv lnv uv C1_12 F1_12 (wVx dA a1 tv ngv scv lnv uv Cv Fv (tV2 dA b vs tp (20 + (rx).toNat) (si (hg - 1)))))) H := hP
  have hD : va_D A (wMr dA b tr hg wk at_ en cm rg st0 en0 lg tR ngR scR lnR uR lu ru su qu pl rv si D CR FR LF RF SF QF P (wVx dA (b + 38 + 4 * (20 + (rx).toNat)) tv ngv scv lnv uv C1_12 F1_12 (wVx dA a1 tv ngv scv lnv uv Cv Fv (tV2 dA b vs tp (20 + (rx).toNat) (si (hg - 1)))))) := hD
  have hq12 : WR F1_12 uv N9 ∧ ∀ j, 0 ≤ j → j < lnv → C1_12 j = Cv j := hq12
  rw [e_a1] at hP hD
  have hP := va_P_pm (wMr_p (uV2 (dA := dA) (b := b) (vs := vs) (tp := tp) (k := 20 + (rx).toNat) (j := si (hg - 1)) (v := (tv, ngv, scv, lnv, uv, C1_12, F1_12)) (w := (tv, ngv, scv, lnv, uv, Cv, Fv)) (by omega) (by omega) (by omega))) hP
  have hD := va_D_pm (wMr_p (uV2 (dA := dA) (b := b) (vs := vs) (tp := tp) (k := 20 + (rx).toNat) (j := si (hg - 1)) (v := (tv, ngv, scv, lnv, uv, C1_12, F1_12)) (w := (tv, ngv, scv, lnv, uv, Cv, Fv)) (by omega) (by omega) (by omega))) hD
  rw [upF_id2 (by omega) e_vv] at hP hD
  have hP : va_P (dC, dI) vwCl (wMr dA b tr hg wk at_ en cm rg st0 en0 lg tR ngR scR lnR uR lu ru su qu pl rv si D CR FR LF RF SF QF P (tl0 dA b (upF vs (20 + (rx).toNat) (tv, ngv, scv, lnv, uv, C1_12, F1_12)) tp)) H := hP
  have hD : va_D A (wMr dA b tr hg wk at_ en cm rg st0 en0 lg tR ngR scR lnR uR lu ru su qu pl rv si D CR FR LF RF SF QF P (tl0 dA b (upF vs (20 + (rx).toNat) (tv, ngv, scv, lnv, uv, C1_12, F1_12)) tp)) := hD
  refine lv_aload_n hx hb dMr_store_15 rfl (lv_at hl 0 rfl) ?_
  refine lv_dup hx hb dMr_store_16 rfl ?_
  refine va_get (D := (dC, dI)) (ci := 6) (v := .int (iI hg)) (C := "MacroReckoner") (T := TMr) (N := 11) hx hb hts inMr hown hK hP 0 rfl rfl 5 (by decide) (hts _ wt1_178) (fun _ h9 => h9) rfl dMr_store_17 ?_
  refine lv_iconst (v := iI 1) hx hb dMr_store_20 rfl ?_
  refine iv_isub hx hb dMr_store_21 ?_
  refine va_put (D := (dC, dI)) (ci := 6) (v := .int (iI (hg - 1))) (ty := .int) (C := "MacroReckoner") (T := TMr) (N := 11) hx hb hts inMr tyMr tyMr_ok nmMr hown hK hP hD hS 0 rfl rfl 5 (by decide) (hts _ wt1_178) (fun _ h9 => h9) rfl (by decide +kernel) rfl rfl (Nat.le_of_ble_eq_true rfl) dMr_store_22 (fun H locs hP hD hS => ?_)
  have hP : va_P (dC, dI) vwCl (wMr dA b tr (hg - 1) wk at_ en cm rg st0 en0 lg tR ngR scR lnR uR lu ru su qu pl rv si D CR FR LF RF SF QF P (tl0 dA b (upF vs (20 + (rx).toNat) (tv, ngv, scv, lnv, uv, C1_12, F1_12)) tp)) H := hP
  have hD : va_D A (wMr dA b tr (hg - 1) wk at_ en cm rg st0 en0 lg tR ngR scR lnR uR lu ru su qu pl rv si D CR FR LF RF SF QF P (tl0 dA b (upF vs (20 + (rx).toNat) (tv, ngv, scv, lnv, uv, C1_12, F1_12)) tp)) := hD
  refine lv_iconst (v := iI 0) hx hb dMr_store_25 rfl ?_
  exact rt_i hx hb hr hlocks hK hS dMr_store_26 (upF vs (20 + (rx).toNat) (tv, ngv, scv, lnv, uv, C1_12, F1_12)) hP hD (show 0 = 0 ∧ CH si (upF vs (20 + (rx).toNat) (tv, ngv, scv, lnv, uv, C1_12, F1_12)) (hg - 1) wk (stoA st rx).2 from by exact ⟨rfl, CH_sto hCH (CV_c hV9 ha1 ha2 ha3 ha4 ha5 hq12.1 hq12.2) (by omega) hrx⟩)

theorem dMr_swap_0 : decode prog_1_method_25_code 0 = .ok (.aload_n 0, 1) := by decide +kernel
theorem dMr_swap_1 : decode prog_1_method_25_code 1 = .ok (.getfield 35, 3) := by decide +kernel
theorem dMr_swap_4 : decode prog_1_method_25_code 4 = .ok (.aload_n 0, 1) := by decide +kernel
theorem dMr_swap_5 : decode prog_1_method_25_code 5 = .ok (.getfield 39, 3) := by decide +kernel
theorem dMr_swap_8 : decode prog_1_method_25_code 8 = .ok (.iconst 1, 1) := by decide +kernel
theorem dMr_swap_9 : decode prog_1_method_25_code 9 = .ok (.isub, 1) := by decide +kernel
theorem dMr_swap_10 : decode prog_1_method_25_code 10 = .ok (.aaload, 1) := by decide +kernel
theorem dMr_swap_11 : decode prog_1_method_25_code 11 = .ok (.astore_n 1, 1) := by decide +kernel
theorem dMr_swap_12 : decode prog_1_method_25_code 12 = .ok (.aload_n 0, 1) := by decide +kernel
theorem dMr_swap_13 : decode prog_1_method_25_code 13 = .ok (.getfield 35, 3) := by decide +kernel
theorem dMr_swap_16 : decode prog_1_method_25_code 16 = .ok (.aload_n 0, 1) := by decide +kernel
theorem dMr_swap_17 : decode prog_1_method_25_code 17 = .ok (.getfield 39, 3) := by decide +kernel
theorem dMr_swap_20 : decode prog_1_method_25_code 20 = .ok (.iconst 1, 1) := by decide +kernel
theorem dMr_swap_21 : decode prog_1_method_25_code 21 = .ok (.isub, 1) := by decide +kernel
theorem dMr_swap_22 : decode prog_1_method_25_code 22 = .ok (.aload_n 0, 1) := by decide +kernel
theorem dMr_swap_23 : decode prog_1_method_25_code 23 = .ok (.getfield 35, 3) := by decide +kernel
theorem dMr_swap_26 : decode prog_1_method_25_code 26 = .ok (.aload_n 0, 1) := by decide +kernel
theorem dMr_swap_27 : decode prog_1_method_25_code 27 = .ok (.getfield 39, 3) := by decide +kernel
theorem dMr_swap_30 : decode prog_1_method_25_code 30 = .ok (.iconst 2, 1) := by decide +kernel
theorem dMr_swap_31 : decode prog_1_method_25_code 31 = .ok (.isub, 1) := by decide +kernel
theorem dMr_swap_32 : decode prog_1_method_25_code 32 = .ok (.aaload, 1) := by decide +kernel
theorem dMr_swap_33 : decode prog_1_method_25_code 33 = .ok (.aastore, 1) := by decide +kernel
theorem dMr_swap_34 : decode prog_1_method_25_code 34 = .ok (.aload_n 0, 1) := by decide +kernel
theorem dMr_swap_35 : decode prog_1_method_25_code 35 = .ok (.getfield 35, 3) := by decide +kernel
theorem dMr_swap_38 : decode prog_1_method_25_code 38 = .ok (.aload_n 0, 1) := by decide +kernel
theorem dMr_swap_39 : decode prog_1_method_25_code 39 = .ok (.getfield 39, 3) := by decide +kernel
theorem dMr_swap_42 : decode prog_1_method_25_code 42 = .ok (.iconst 2, 1) := by decide +kernel
theorem dMr_swap_43 : decode prog_1_method_25_code 43 = .ok (.isub, 1) := by decide +kernel
theorem dMr_swap_44 : decode prog_1_method_25_code 44 = .ok (.aload_n 1, 1) := by decide +kernel
theorem dMr_swap_45 : decode prog_1_method_25_code 45 = .ok (.aastore, 1) := by decide +kernel
theorem dMr_swap_46 : decode prog_1_method_25_code 46 = .ok (.iconst 0, 1) := by decide +kernel
theorem dMr_swap_47 : decode prog_1_method_25_code 47 = .ok (.ireturn, 1) := by decide +kernel
abbrev qMr_swap (dC : Nat → ClassId) (dI : Nat → Nat → Nat) (dA : Nat → ClassId) (dS : Nat → Nat) (b : Nat) (tr : Int) (hg : Int) (wk : Int) (at_ : Int) (en : Int) (cm : Int) (rg : Int) (st0 : Int) (en0 : Int) (lg : Int) (tR : Int) (ngR : Int) (scR : Int) (lnR : Int) (uR : Int) (lu : Int) (ru : Int) (su : Int) (qu : Int) (pl : Int) (rv : Value) (si : Int → Nat) (D : Int → Int) (CR : Int → Int) (FR : Int → Int) (LF : Int → Int) (RF : Int → Int) (SF : Int → Int) (QF : Int → Int) (P : Int → Int) (vs : Nat → VS) (tp : Nat → TS) (st : AS) (A : Nat → Prop) : Array Value → State → Outcome → State → Prop := QI (dC, dI) vwCl (tyA dA) (fun (r : Int) (v_ : (Int → Nat)) => r = 0 ∧ CH v_ vs hg wk (swapA st).2) (fun (v_ : (Int → Nat)) => wMr dA b tr hg wk at_ en cm rg st0 en0 lg tR ngR scR lnR uR lu ru su qu pl rv v_ D CR FR LF RF SF QF P (tl0 dA b vs tp)) A
abbrev rmMr_swap : Room := { frames := 0, cells := 0, slots := 0, locals := 0 }
set_option maxRecDepth 100000 in
set_option maxHeartbeats 1000000 in
theorem cMr_swap (l : Launch) (dC : Nat → ClassId) (dI : Nat → Nat → Nat) (dA : Nat → ClassId) (dS : Nat → Nat) (b : Nat) (tr : Int) (hg : Int) (wk : Int) (at_ : Int) (en : Int) (cm : Int) (rg : Int) (st0 : Int) (en0 : Int) (lg : Int) (tR : Int) (ngR : Int) (scR : Int) (lnR : Int) (uR : Int) (lu : Int) (ru : Int) (su : Int) (qu : Int) (pl : Int) (rv : Value) (si : Int → Nat) (D : Int → Int) (CR : Int → Int) (FR : Int → Int) (LF : Int → Int) (RF : Int → Int) (SF : Int → Int) (QF : Int → Int) (P : Int → Int) (vs : Nat → VS) (tp : Nat → TS) (st : AS) (hCH : CH si vs hg wk st) (hg1_ : 2 ≤ hg) (sz : Nat) : Met l yMr_swap wsMr_swap rmMr_swap (PC (dC, dI) vwCl (tyA dA) (XC dS) [.ref b] (wMr dA b tr hg wk at_ en cm rg st0 en0 lg tR ngR scR lnR uR lu ru su qu pl rv si D CR FR LF RF SF QF P (tl0 dA b vs tp)) sz) (qMr_swap dC dI dA dS b tr hg wk at_ en cm rg st0 en0 lg tR ngR scR lnR uR lu ru su qu pl rv si D CR FR LF RF SF QF P vs tp st (va_A (wMr dA b tr hg wk at_ en cm rg st0 en0 lg tR ngR scR lnR uR lu ru su qu pl rv si D CR FR LF RF SF QF P (tl0 dA b vs tp)) sz)) 0 0 (va_A (wMr dA b tr hg wk at_ en cm rg st0 en0 lg tR ngR scR lnR uR lu ru su qu pl rv si D CR FR LF RF SF QF P (tl0 dA b vs tp)) sz) := by
  refine met_of (cc := prog_1_method_25_code) (maxL := 2) (ret := (some .int)) (Qc := qMr_swap dC dI dA dS b tr hg wk at_ en cm rg st0 en0 lg tR ngR scR lnR uR lu ru su qu pl rv si D CR FR LF RF SF QF P vs tp st) (XC_ok dS) (by decide) rfl (Nat.le_of_ble_eq_true rfl) ?_
  intro p e s m below meth c ls A hx hb hr hml hown hts hlocks hnm hK hP hD hA hX hS hl
  have hl : lv_has ls 2 [(0, .ref b)] := hl
  have hown : s.vm.findClass "MacroReckoner" = some m.cls := hown
  obtain ⟨H, hH⟩ : ∃ H : Heap, H = s.heap := ⟨_, rfl⟩
  obtain ⟨locs, hlo⟩ : ∃ L : List Loc, L = [] := ⟨_, rfl⟩
  have hP : va_P (dC, dI) vwCl (wMr dA b tr hg wk at_ en cm rg st0 en0 lg tR ngR scR lnR uR lu ru su qu pl rv si D CR FR LF RF SF QF P (tl0 dA b vs tp)) H := hH ▸ hP
  have hS : va_S A s.heap H locs := by rw [hH, hlo]; exact hS
  suffices hgo : W p l e rmMr_swap s m [.ref b].toArray below meth c H locs 0 0 (MQ below (qMr_swap dC dI dA dS b tr hg wk at_ en cm rg st0 en0 lg tR ngR scR lnR uR lu ru su qu pl rv si D CR FR LF RF SF QF P vs tp st A) [.ref b].toArray s 0 0 A) (F0 m 0 ls []) by rw [hH, hlo] at hgo; exact hgo
  clear hH hlo
  have hh := hCH.1
  have hs9 := hCH.2.2.1 (hg - 1) (by omega) (by omega)
  have hs8 := hCH.2.2.1 (hg - 2) (by omega) (by omega)
  have hne : si (hg - 1) ≠ si (hg - 2) := fun z => by have h := hCH.2.2.2.1 _ _ (by omega) (by omega) (by omega) (by omega) z; omega
  refine lv_aload_n hx hb dMr_swap_0 rfl (lv_at hl 0 rfl) ?_
  refine va_get (D := (dC, dI)) (ci := 6) (v := .ref (b + 5)) (C := "MacroReckoner") (T := TMr) (N := 11) hx hb hts inMr hown hK hP 0 rfl rfl 4 (by decide) (hts _ wt1_177) (fun _ h9 => h9) rfl dMr_swap_1 ?_
  refine lv_aload_n hx hb dMr_swap_4 rfl (lv_at hl 0 rfl) ?_
  refine va_get (D := (dC, dI)) (ci := 6) (v := .int (iI hg)) (C := "MacroReckoner") (T := TMr) (N := 11) hx hb hts inMr hown hK hP 0 rfl rfl 5 (by decide) (hts _ wt1_178) (fun _ h9 => h9) rfl dMr_swap_5 ?_
  refine lv_iconst (v := iI 1) hx hb dMr_swap_8 rfl ?_
  refine iv_isub hx hb dMr_swap_9 ?_
  refine iv_aald hx hb hK hP 5 4 rfl rfl (by decide) dMr_swap_10 (by omega) (by omega) ?_
  refine W.eq (g2 := F0 m 11 ls [.ref (b + 38 + 4 * si (hg - 1))]) rfl ?_
  obtain ⟨a1, e_a1⟩ : ∃ z : Nat, z = b + 38 + 4 * si (hg - 1) := ⟨_, rfl⟩
  rw [← e_a1]
  refine lv_astore_n (lv' := [(1, .ref a1), (0, .ref b)]) hx hb dMr_swap_11 rfl hl (by decide) rfl (fun ls hl => ?_)
  refine lv_aload_n hx hb dMr_swap_12 rfl (lv_at hl 1 rfl) ?_
  refine va_get (D := (dC, dI)) (ci := 6) (v := .ref (b + 5)) (C := "MacroReckoner") (T := TMr) (N := 11) hx hb hts inMr hown hK hP 0 rfl rfl 4 (by decide) (hts _ wt1_177) (fun _ h9 => h9) rfl dMr_swap_13 ?_
  refine lv_aload_n hx hb dMr_swap_16 rfl (lv_at hl 1 rfl) ?_
  refine va_get (D := (dC, dI)) (ci := 6) (v := .int (iI hg)) (C := "MacroReckoner") (T := TMr) (N := 11) hx hb hts inMr hown hK hP 0 rfl rfl 5 (by decide) (hts _ wt1_178) (fun _ h9 => h9) rfl dMr_swap_17 ?_
  refine lv_iconst (v := iI 1) hx hb dMr_swap_20 rfl ?_
  refine iv_isub hx hb dMr_swap_21 ?_
  refine lv_aload_n hx hb dMr_swap_22 rfl (lv_at hl 1 rfl) ?_
  refine va_get (D := (dC, dI)) (ci := 6) (v := .ref (b + 5)) (C := "MacroReckoner") (T := TMr) (N := 11) hx hb hts inMr hown hK hP 0 rfl rfl 4 (by decide) (hts _ wt1_177) (fun _ h9 => h9) rfl dMr_swap_23 ?_
  refine lv_aload_n hx hb dMr_swap_26 rfl (lv_at hl 1 rfl) ?_
  refine va_get (D := (dC, dI)) (ci := 6) (v := .int (iI hg)) (C := "MacroReckoner") (T := TMr) (N := 11) hx hb hts inMr hown hK hP 0 rfl rfl 5 (by decide) (hts _ wt1_178) (fun _ h9 => h9) rfl dMr_swap_27 ?_
  refine lv_iconst (v := iI 2) hx hb dMr_swap_30 rfl ?_
  refine iv_isub hx hb dMr_swap_31 ?_
  refine iv_aald hx hb hK hP 5 4 rfl rfl (by decide) dMr_swap_32 (by omega) (by omega) ?_
  refine W.eq (g2 := F0 m 33 ls [.ref (b + 38 + 4 * si (hg - 2)), .int (iI (hg - 1)), .ref (b + 5)]) rfl ?_
  obtain ⟨a2, e_a2⟩ : ∃ z : Nat, z = b + 38 + 4 * si (hg - 2) := ⟨_, rfl⟩
  rw [← e_a2]
  obtain ⟨⟨tv, ngv, scv, lnv, uv, Cv, Fv⟩, e_vv⟩ : ∃ z : VS, z = vs (si (hg - 1)) := ⟨_, rfl⟩
  obtain ⟨⟨tw, ngw, scw, lnw, uw, Cw, Fw⟩, e_vw⟩ : ∃ z : VS, z = vs (si (hg - 2)) := ⟨_, rfl⟩
  have hP := va_P_pm (wMr_p (fV2 (dA := dA) (b := b) (vs := vs) (tp := tp) (k := si (hg - 1)) (j := si (hg - 2)) (by omega) (by omega) hne)) hP
  have hD := va_D_pm (wMr_p (fV2 (dA := dA) (b := b) (vs := vs) (tp := tp) (k := si (hg - 1)) (j := si (hg - 2)) (by omega) (by omega) hne)) hD
  rw [← e_vv, ← e_vw, ← e_a1, ← e_a2] at hP hD
  have hP : va_P (dC, dI) vwCl (wMr dA b tr hg wk at_ en cm rg st0 en0 lg tR ngR scR lnR uR lu ru su qu pl rv si D CR FR LF RF SF QF P (wVx dA a1 tv ngv scv lnv uv Cv Fv (wVx dA a2 tw ngw scw lnw uw Cw Fw (tV2 dA b vs tp (si (hg - 1)) (si (hg - 2)))))) H := hP
  have hD : va_D A (wMr dA b tr hg wk at_ en cm rg st0 en0 lg tR ngR scR lnR uR lu ru su qu pl rv si D CR FR LF RF SF QF P (wVx dA a1 tv ngv scv lnv uv Cv Fv (wVx dA a2 tw ngw scw lnw uw Cw Fw (tV2 dA b vs tp (si (hg - 1)) (si (hg - 2)))))) := hD
  refine iv_aast hx hb hK hP hD hS 5 4 26 4 rfl rfl rfl rfl (by decide) dMr_swap_33 (by omega) (by omega) (fun H locs hP hD hS => ?_)
  rw [e_a2, upN_sf] at hP hD
  rw [← e_a2] at hP hD
  have hP : va_P (dC, dI) vwCl (wMr dA b tr hg wk at_ en cm rg st0 en0 lg tR ngR scR lnR uR lu ru su qu pl rv (upN si (hg - 1) (si (hg - 2))) D CR FR LF RF SF QF P (wVx dA a1 tv ngv scv lnv uv Cv Fv (wVx dA a2 tw ngw scw lnw uw Cw Fw (tV2 dA b vs tp (si (hg - 1)) (si (hg - 2)))))) H := hP
  have hD : va_D A (wMr dA b tr hg wk at_ en cm rg st0 en0 lg tR ngR scR lnR uR lu ru su qu pl rv (upN si (hg - 1) (si (hg - 2))) D CR FR LF RF SF QF P (wVx dA a1 tv ngv scv lnv uv Cv Fv (wVx dA a2 tw ngw scw lnw uw Cw Fw (tV2 dA b vs tp (si (hg - 1)) (si (hg - 2)))))) := hD
  refine lv_aload_n hx hb dMr_swap_34 rfl (lv_at hl 1 rfl) ?_
  refine va_get (D := (dC, dI)) (ci := 6) (v := .ref (b + 5)) (C := "MacroReckoner") (T := TMr) (N := 11) hx hb hts inMr hown hK hP 0 rfl rfl 4 (by decide) (hts _ wt1_177) (fun _ h9 => h9) rfl dMr_swap_35 ?_
  refine lv_aload_n hx hb dMr_swap_38 rfl (lv_at hl 1 rfl) ?_
  refine va_get (D := (dC, dI)) (ci := 6) (v := .int (iI hg)) (C := "MacroReckoner") (T := TMr) (N := 11) hx hb hts inMr hown hK hP 0 rfl rfl 5 (by decide) (hts _ wt1_178) (fun _ h9 => h9) rfl dMr_swap_39 ?_
  refine lv_iconst (v := iI 2) hx hb dMr_swap_42 rfl ?_
  refine iv_isub hx hb dMr_swap_43 ?_
  refine lv_aload_n hx hb dMr_swap_44 rfl (lv_at hl 0 rfl) ?_
  refine iv_aast hx hb hK hP hD hS 5 4 22 4 rfl rfl rfl rfl (by decide) dMr_swap_45 (by omega) (by omega) (fun H locs hP hD hS => ?_)
  rw [e_a1, upN_sf] at hP hD
  rw [← e_a1] at hP hD
  have hP : va_P (dC, dI) vwCl (wMr dA b tr hg wk at_ en cm rg st0 en0 lg tR ngR scR lnR uR lu ru su qu pl rv (upN (upN si (hg - 1) (si (hg - 2))) (hg - 2) (si (hg - 1))) D CR FR LF RF SF QF P (wVx dA a1 tv ngv scv lnv uv Cv Fv (wVx dA a2 tw ngw scw lnw uw Cw Fw (tV2 dA b vs tp (si (hg - 1)) (si (hg - 2)))))) H := hP
  have hD : va_D A (wMr dA b tr hg wk at_ en cm rg st0 en0 lg tR ngR scR lnR uR lu ru su qu pl rv (upN (upN si (hg - 1) (si (hg - 2))) (hg - 2) (si (hg - 1))) D CR FR LF RF SF QF P (wVx dA a1 tv ngv scv lnv uv Cv Fv (wVx dA a2 tw ngw scw lnw uw Cw Fw (tV2 dA b vs tp (si (hg - 1)) (si (hg - 2)))))) := hD
  rw [e_a1, e_a2] at hP hD
  have hP := va_P_pm (wMr_p (uV2 (dA := dA) (b := b) (vs := vs) (tp := tp) (k := si (hg - 1)) (j := si (hg - 2)) (v := (tv, ngv, scv, lnv, uv, Cv, Fv)) (w := (tw, ngw, scw, lnw, uw, Cw, Fw)) (by omega) (by omega) hne)) hP
  have hD := va_D_pm (wMr_p (uV2 (dA := dA) (b := b) (vs := vs) (tp := tp) (k := si (hg - 1)) (j := si (hg - 2)) (v := (tv, ngv, scv, lnv, uv, Cv, Fv)) (w := (tw, ngw, scw, lnw, uw, Cw, Fw)) (by omega) (by omega) hne)) hD
  rw [upF_id2 hne e_vw] at hP hD
  rw [upF_id e_vv] at hP hD
  have hP : va_P (dC, dI) vwCl (wMr dA b tr hg wk at_ en cm rg st0 en0 lg tR ngR scR lnR uR lu ru su qu pl rv (upN (upN si (hg - 1) (si (hg - 2))) (hg - 2) (si (hg - 1))) D CR FR LF RF SF QF P (tl0 dA b vs tp)) H := hP
  have hD : va_D A (wMr dA b tr hg wk at_ en cm rg st0 en0 lg tR ngR scR lnR uR lu ru su qu pl rv (upN (upN si (hg - 1) (si (hg - 2))) (hg - 2) (si (hg - 1))) D CR FR LF RF SF QF P (tl0 dA b vs tp)) := hD
  refine lv_iconst (v := iI 0) hx hb dMr_swap_46 rfl ?_
  exact rt_i hx hb hr hlocks hK hS dMr_swap_47 (upN (upN si (hg - 1) (si (hg - 2))) (hg - 2) (si (hg - 1))) hP hD (show 0 = 0 ∧ CH (upN (upN si (hg - 1) (si (hg - 2))) (hg - 2) (si (hg - 1))) vs hg wk (swapA st).2 from by exact ⟨rfl, CH_sw hCH (by omega)⟩)
