theorem dMr_isText_0 : decode prog_1_method_8_code 0 = .ok (.iload_n 1, 1) := by decide +kernel
theorem dMr_isText_1 : decode prog_1_method_8_code 1 = .ok (.bipush 97, 2) := by decide +kernel
theorem dMr_isText_3 : decode prog_1_method_8_code 3 = .ok (.if_icmp .lt 9, 3) := by decide +kernel
theorem dMr_isText_6 : decode prog_1_method_8_code 6 = .ok (.iload_n 1, 1) := by decide +kernel
theorem dMr_isText_7 : decode prog_1_method_8_code 7 = .ok (.bipush 122, 2) := by decide +kernel
theorem dMr_isText_9 : decode prog_1_method_8_code 9 = .ok (.if_icmp .le 11, 3) := by decide +kernel
theorem dMr_isText_12 : decode prog_1_method_8_code 12 = .ok (.new 73, 3) := by decide +kernel
theorem dMr_isText_15 : decode prog_1_method_8_code 15 = .ok (.dup, 1) := by decide +kernel
theorem dMr_isText_16 : decode prog_1_method_8_code 16 = .ok (.invokespecial 75, 3) := by decide +kernel
theorem dMr_isText_19 : decode prog_1_method_8_code 19 = .ok (.athrow, 1) := by decide +kernel
theorem dMr_isText_20 : decode prog_1_method_8_code 20 = .ok (.aload_n 0, 1) := by decide +kernel
theorem dMr_isText_21 : decode prog_1_method_8_code 21 = .ok (.getfield 42, 3) := by decide +kernel
theorem dMr_isText_24 : decode prog_1_method_8_code 24 = .ok (.iload_n 1, 1) := by decide +kernel
theorem dMr_isText_25 : decode prog_1_method_8_code 25 = .ok (.bipush 97, 2) := by decide +kernel
theorem dMr_isText_27 : decode prog_1_method_8_code 27 = .ok (.isub, 1) := by decide +kernel
theorem dMr_isText_28 : decode prog_1_method_8_code 28 = .ok (.aaload, 1) := by decide +kernel
theorem dMr_isText_29 : decode prog_1_method_8_code 29 = .ok (.getfield 107, 3) := by decide +kernel
theorem dMr_isText_32 : decode prog_1_method_8_code 32 = .ok (.ireturn, 1) := by decide +kernel
abbrev qMr_isText (dC : Nat → ClassId) (dI : Nat → Nat → Nat) (dA : Nat → ClassId) (dS : Nat → Nat) (b : Nat) (tr : Int) (hg : Int) (wk : Int) (at_ : Int) (en : Int) (cm : Int) (rg : Int) (st0 : Int) (en0 : Int) (lg : Int) (tR : Int) (ngR : Int) (scR : Int) (lnR : Int) (uR : Int) (lu : Int) (ru : Int) (su : Int) (qu : Int) (pl : Int) (rv : Value) (si : Int → Nat) (D : Int → Int) (CR : Int → Int) (FR : Int → Int) (LF : Int → Int) (RF : Int → Int) (SF : Int → Int) (QF : Int → Int) (P : Int → Int) (vs : Nat → VS) (tp : Nat → TS) (ad : Nat → Nat) (st : AS) (ch : Int) (A : Nat → Prop) : Array Value → State → Outcome → State → Prop := QI (dC, dI) vwCl (tyA dA) (fun (r : Int) (v_ : Unit) => r = (st.reg (ch - 97)).t ∧ (r = 0 ∨ r = 1)) (fun (v_ : Unit) => wMr dA b tr hg wk at_ en cm rg st0 en0 lg tR ngR scR lnR uR lu ru su qu pl rv si D CR FR LF RF SF QF P (tl0 dA b vs tp)) A
abbrev rmMr_isText : Room := { frames := 0, cells := 0, slots := 0, locals := 0 }
set_option maxRecDepth 100000 in
set_option maxHeartbeats 1000000 in
theorem cMr_isText (l : Launch) (dC : Nat → ClassId) (dI : Nat → Nat → Nat) (dA : Nat → ClassId) (dS : Nat → Nat) (b : Nat) (tr : Int) (hg : Int) (wk : Int) (at_ : Int) (en : Int) (cm : Int) (rg : Int) (st0 : Int) (en0 : Int) (lg : Int) (tR : Int) (ngR : Int) (scR : Int) (lnR : Int) (uR : Int) (lu : Int) (ru : Int) (su : Int) (qu : Int) (pl : Int) (rv : Value) (si : Int → Nat) (D : Int → Int) (CR : Int → Int) (FR : Int → Int) (LF : Int → Int) (RF : Int → Int) (SF : Int → Int) (QF : Int → Int) (P : Int → Int) (vs : Nat → VS) (tp : Nat → TS) (ad : Nat → Nat) (st : AS) (ch : Int) (hCH : CH si vs hg wk st) (hch : 97 ≤ ch ∧ ch ≤ 122) (sz : Nat) : Met l yMr_isText wsMr_isText rmMr_isText (PC (dC, dI) vwCl (tyA dA) (XM dS ad) [.ref b, .int (iI ch)] (wMr dA b tr hg wk at_ en cm rg st0 en0 lg tR ngR scR lnR uR lu ru su qu pl rv si D CR FR LF RF SF QF P (tl0 dA b vs tp)) sz) (qMr_isText dC dI dA dS b tr hg wk at_ en cm rg st0 en0 lg tR ngR scR lnR uR lu ru su qu pl rv si D CR FR LF RF SF QF P vs tp ad st ch (va_A (wMr dA b tr hg wk at_ en cm rg st0 en0 lg tR ngR scR lnR uR lu ru su qu pl rv si D CR FR LF RF SF QF P (tl0 dA b vs tp)) sz)) 0 0 (va_A (wMr dA b tr hg wk at_ en cm rg st0 en0 lg tR ngR scR lnR uR lu ru su qu pl rv si D CR FR LF RF SF QF P (tl0 dA b vs tp)) sz) := by
  refine met_of (cc := prog_1_method_8_code) (maxL := 2) (ret := (some .boolean)) (Qc := qMr_isText dC dI dA dS b tr hg wk at_ en cm rg st0 en0 lg tR ngR scR lnR uR lu ru su qu pl rv si D CR FR LF RF SF QF P vs tp ad st ch) (XM_ok dS ad) (by decide) rfl (Nat.le_of_ble_eq_true rfl) ?_
  intro p e s m below meth c ls A hx hb hr hml hown hts hlocks hnm hK hP hD hA hX hS hl
  have hl : lv_has ls 2 [(0, .ref b), (1, .int (iI ch))] := hl
  have hown : s.vm.findClass "MacroReckoner" = some m.cls := hown
  obtain ⟨H, hH⟩ : ∃ H : Heap, H = s.heap := ⟨_, rfl⟩
  obtain ⟨locs, hlo⟩ : ∃ L : List Loc, L = [] := ⟨_, rfl⟩
  have hP : va_P (dC, dI) vwCl (wMr dA b tr hg wk at_ en cm rg st0 en0 lg tR ngR scR lnR uR lu ru su qu pl rv si D CR FR LF RF SF QF P (tl0 dA b vs tp)) H := hH ▸ hP
  have hS : va_S A s.heap H locs := by rw [hH, hlo]; exact hS
  suffices hgo : W p l e rmMr_isText s m [.ref b, .int (iI ch)].toArray below meth c H locs 0 0 (MQ below (qMr_isText dC dI dA dS b tr hg wk at_ en cm rg st0 en0 lg tR ngR scR lnR uR lu ru su qu pl rv si D CR FR LF RF SF QF P vs tp ad st ch A) [.ref b, .int (iI ch)].toArray s 0 0 A) (F0 m 0 ls []) by rw [hH, hlo] at hgo; exact hgo
  clear hH hlo
  refine lv_iload_n hx hb dMr_isText_0 rfl (lv_at hl 1 rfl) ?_
  refine lv_bipush (v := iI 97) hx hb dMr_isText_1 (by decide) ?_
  refine iv_icmp_lt (tgt := 12) hx hb dMr_isText_3 (by decide) ⟨by omega, by omega⟩ ⟨by decide, by decide⟩ (fun hc3 => absurd hc3 (by omega)) (fun hc3 => ?_)
  refine lv_iload_n hx hb dMr_isText_6 rfl (lv_at hl 1 rfl) ?_
  refine lv_bipush (v := iI 122) hx hb dMr_isText_7 (by decide) ?_
  refine iv_icmp_le (tgt := 20) hx hb dMr_isText_9 (by decide) ⟨by omega, by omega⟩ ⟨by decide, by decide⟩ (fun hc9 => ?_) (fun hc9 => absurd hc9 (by omega))
  refine lv_aload_n hx hb dMr_isText_20 rfl (lv_at hl 0 rfl) ?_
  refine va_get (D := (dC, dI)) (ci := 6) (v := .ref (b + 6)) (C := "MacroReckoner") (T := TMr) (N := 11) hx hb hts inMr hown hK hP 0 rfl rfl 6 (by decide) (hts _ wt1_179) (fun _ h9 => h9) rfl dMr_isText_21 ?_
  refine lv_iload_n hx hb dMr_isText_24 rfl (lv_at hl 1 rfl) ?_
  refine lv_bipush (v := iI 97) hx hb dMr_isText_25 (by decide) ?_
  refine iv_isub hx hb dMr_isText_27 ?_
  refine iv_aald hx hb hK hP 6 4 rfl rfl (by decide) dMr_isText_28 (by omega) (by omega) ?_
  refine W.eq (g2 := F0 m 29 ls [.ref (b + 38 + 4 * (20 + (ch - 97).toNat))]) rfl ?_
  obtain ⟨a1, e_a1⟩ : ∃ z : Nat, z = b + 38 + 4 * (20 + (ch - 97).toNat) := ⟨_, rfl⟩
  rw [← e_a1]
  have hCR := hCH.2.2.2.2.1 (ch - 97) (by omega) (by omega)
  obtain ⟨⟨tv, ngv, scv, lnv, uv, Cv, Fv⟩, e_vv⟩ : ∃ z : VS, z = vs (20 + (ch - 97).toNat) := ⟨_, rfl⟩
  have hP := va_P_pm (wMr_p (fV1 (dA := dA) (b := b) (vs := vs) (tp := tp) (k := 20 + (ch - 97).toNat) (by omega))) hP
  have hD := va_D_pm (wMr_p (fV1 (dA := dA) (b := b) (vs := vs) (tp := tp) (k := 20 + (ch - 97).toNat) (by omega))) hD
  rw [← e_vv, ← e_a1] at hP hD
  have hP : va_P (dC, dI) vwCl (wMr dA b tr hg wk at_ en cm rg st0 en0 lg tR ngR scR lnR uR lu ru su qu pl rv si D CR FR LF RF SF QF P (wVx dA a1 tv ngv scv lnv uv Cv Fv (tV1 dA b vs tp (20 + (ch - 97).toNat)))) H := hP
  have hD : va_D A (wMr dA b tr hg wk at_ en cm rg st0 en0 lg tR ngR scR lnR uR lu ru su qu pl rv si D CR FR LF RF SF QF P (wVx dA a1 tv ngv scv lnv uv Cv Fv (tV1 dA b vs tp (20 + (ch - 97).toNat)))) := hD
  rw [← e_vv] at hCR
  obtain ⟨N9, hV9, hW9, ha1, -, -, -, -⟩ := hCR
  have hb1 : (st.reg (ch - 97)).t = tv := ha1
  have hv1 : tv = 0 ∨ tv = 1 := hV9.1
  refine va_getN (D := (dC, dI)) (ci := 4) (v := .int (iI tv)) (C := "MacroReckoner$Value") (T := TVa) (N := 6) hx hb hts inVa hown hK hP 22 rfl rfl 0 (by decide) (va_Nw.use rfl (hX.1.1 ("MacroReckoner", 107, "MacroReckoner$Value", "text", "Z", "MacroReckoner") (List.mem_of_getElem? (i := 9) rfl))) (fun _ h9 => h9) rfl dMr_isText_29 ?_
  rw [e_a1] at hP hD
  have hP := va_P_pm (wMr_p (uV1 (dA := dA) (b := b) (vs := vs) (tp := tp) (k := 20 + (ch - 97).toNat) (v := (tv, ngv, scv, lnv, uv, Cv, Fv)) (by omega))) hP
  have hD := va_D_pm (wMr_p (uV1 (dA := dA) (b := b) (vs := vs) (tp := tp) (k := 20 + (ch - 97).toNat) (v := (tv, ngv, scv, lnv, uv, Cv, Fv)) (by omega))) hD
  rw [upF_id e_vv] at hP hD
  have hP : va_P (dC, dI) vwCl (wMr dA b tr hg wk at_ en cm rg st0 en0 lg tR ngR scR lnR uR lu ru su qu pl rv si D CR FR LF RF SF QF P (tl0 dA b vs tp)) H := hP
  have hD : va_D A (wMr dA b tr hg wk at_ en cm rg st0 en0 lg tR ngR scR lnR uR lu ru su qu pl rv si D CR FR LF RF SF QF P (tl0 dA b vs tp)) := hD
  exact rt_z hx hb hr hlocks hK hS dMr_isText_32 (nrw_bool (by omega)) () hP hD (show tv = (st.reg (ch - 97)).t ∧ (tv = 0 ∨ tv = 1) from by exact ⟨hb1.symm, hv1⟩)
