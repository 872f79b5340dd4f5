theorem dMr_type_0 : decode prog_1_method_2_code 0 = .ok (.iload_n 1, 1) := by decide +kernel
theorem dMr_type_1 : decode prog_1_method_2_code 1 = .ok (.bipush 32, 2) := by decide +kernel
theorem dMr_type_3 : decode prog_1_method_2_code 3 = .ok (.if_icmp .lt 24, 3) := by decide +kernel
theorem dMr_type_6 : decode prog_1_method_2_code 6 = .ok (.iload_n 1, 1) := by decide +kernel
theorem dMr_type_7 : decode prog_1_method_2_code 7 = .ok (.bipush 126, 2) := by decide +kernel
theorem dMr_type_9 : decode prog_1_method_2_code 9 = .ok (.if_icmp .gt 18, 3) := by decide +kernel
theorem dMr_type_12 : decode prog_1_method_2_code 12 = .ok (.aload_n 0, 1) := by decide +kernel
theorem dMr_type_13 : decode prog_1_method_2_code 13 = .ok (.getfield 14, 3) := by decide +kernel
theorem dMr_type_16 : decode prog_1_method_2_code 16 = .ok (.iload_n 1, 1) := by decide +kernel
theorem dMr_type_17 : decode prog_1_method_2_code 17 = .ok (.invokevirtual 69, 3) := by decide +kernel
theorem dMr_type_20 : decode prog_1_method_2_code 20 = .ok (.ifCond .eq 7, 3) := by decide +kernel
theorem dMr_type_23 : decode prog_1_method_2_code 23 = .ok (.iconst 1, 1) := by decide +kernel
theorem dMr_type_24 : decode prog_1_method_2_code 24 = .ok (.goto 4, 3) := by decide +kernel
theorem dMr_type_27 : decode prog_1_method_2_code 27 = .ok (.iconst 0, 1) := by decide +kernel
theorem dMr_type_28 : decode prog_1_method_2_code 28 = .ok (.ireturn, 1) := by decide +kernel
abbrev qMr_type (dC : Nat → ClassId) (dI : Nat → Nat → Nat) (dA : Nat → ClassId) (dS : Nat → Nat) (b : Nat) (tr : Int) (hg : Int) (wk : Int) (at_ : Int) (en : Int) (cm : Int) (rg : Int) (st0 : Int) (en0 : Int) (lg : Int) (tR : Int) (ngR : Int) (scR : Int) (lnR : Int) (uR : Int) (lu : Int) (ru : Int) (su : Int) (qu : Int) (pl : Int) (rv : Value) (si : Int → Nat) (D : Int → Int) (CR : Int → Int) (FR : Int → Int) (LF : Int → Int) (RF : Int → Int) (SF : Int → Int) (QF : Int → Int) (P : Int → Int) (vs : Nat → VS) (tp : Nat → TS) (st : AS) (ch : Int) (A : Nat → Prop) : Array Value → State → Outcome → State → Prop := QI (dC, dI) vwCl (tyA dA) (fun (r : Int) (v_ : (Int → Int) × Int × Int) => r = (typA st ch).1 ∧ CIx v_.1 v_.2.1 v_.2.2 (typA st ch).2) (fun (v_ : (Int → Int) × Int × Int) => wMr dA b tr hg wk v_.2.1 v_.2.2 cm rg st0 en0 lg tR ngR scR lnR uR lu ru su qu pl rv si v_.1 CR FR LF RF SF QF P (tl0 dA b vs tp)) A
abbrev rmMr_type : Room := { frames := 2, cells := 0, slots := 0, locals := 81 }
set_option maxRecDepth 100000 in
set_option maxHeartbeats 1000000 in
theorem cMr_type (l : Launch) (dC : Nat → ClassId) (dI : Nat → Nat → Nat) (dA : Nat → ClassId) (dS : Nat → Nat) (b : Nat) (tr : Int) (hg : Int) (wk : Int) (at_ : Int) (en : Int) (cm : Int) (rg : Int) (st0 : Int) (en0 : Int) (lg : Int) (tR : Int) (ngR : Int) (scR : Int) (lnR : Int) (uR : Int) (lu : Int) (ru : Int) (su : Int) (qu : Int) (pl : Int) (rv : Value) (si : Int → Nat) (D : Int → Int) (CR : Int → Int) (FR : Int → Int) (LF : Int → Int) (RF : Int → Int) (SF : Int → Int) (QF : Int → Int) (P : Int → Int) (vs : Nat → VS) (tp : Nat → TS) (st : AS) (ch : Int) (hCI : CIx D at_ en st) (hch : 0 ≤ ch ∧ ch < 65536) (sz : Nat) : Met l yMr_type wsMr_type rmMr_type (PC (dC, dI) vwCl (tyA dA) (XC dS) [.ref b, .int (iI ch)] (wMr dA b tr hg wk at_ en cm rg st0 en0 lg tR ngR scR lnR uR lu ru su qu pl rv si D CR FR LF RF SF QF P (tl0 dA b vs tp)) sz) (qMr_type dC dI dA dS b tr hg wk at_ en cm rg st0 en0 lg tR ngR scR lnR uR lu ru su qu pl rv si D CR FR LF RF SF QF P vs tp st ch (va_A (wMr dA b tr hg wk at_ en cm rg st0 en0 lg tR ngR scR lnR uR lu ru su qu pl rv si D CR FR LF RF SF QF P (tl0 dA b vs tp)) sz)) 0 0 (va_A (wMr dA b tr hg wk at_ en cm rg st0 en0 lg tR ngR scR lnR uR lu ru su qu pl rv si D CR FR LF RF SF QF P (tl0 dA b vs tp)) sz) := by
  refine met_of (cc := prog_1_method_2_code) (maxL := 2) (ret := (some .boolean)) (Qc := qMr_type dC dI dA dS b tr hg wk at_ en cm rg st0 en0 lg tR ngR scR lnR uR lu ru su qu pl rv si D CR FR LF RF SF QF P vs tp st ch) (XC_ok dS) (by decide) rfl (Nat.le_of_ble_eq_true rfl) ?_
  intro p e s m below meth c ls A hx hb hr hml hown hts hlocks hnm hK hP hD hA hX hS hl
  have hl : lv_has ls 2 [(0, .ref b), (1, .int (iI ch))] := hl
  have hown : s.vm.findClass "MacroReckoner" = some m.cls := hown
  obtain ⟨H, hH⟩ : ∃ H : Heap, H = s.heap := ⟨_, rfl⟩
  obtain ⟨locs, hlo⟩ : ∃ L : List Loc, L = [] := ⟨_, rfl⟩
  have hP : va_P (dC, dI) vwCl (wMr dA b tr hg wk at_ en cm rg st0 en0 lg tR ngR scR lnR uR lu ru su qu pl rv si D CR FR LF RF SF QF P (tl0 dA b vs tp)) H := hH ▸ hP
  have hS : va_S A s.heap H locs := by rw [hH, hlo]; exact hS
  suffices hgo : W p l e rmMr_type s m [.ref b, .int (iI ch)].toArray below meth c H locs 0 0 (MQ below (qMr_type dC dI dA dS b tr hg wk at_ en cm rg st0 en0 lg tR ngR scR lnR uR lu ru su qu pl rv si D CR FR LF RF SF QF P vs tp st ch A) [.ref b, .int (iI ch)].toArray s 0 0 A) (F0 m 0 ls []) by rw [hH, hlo] at hgo; exact hgo
  clear hH hlo
  refine lv_iload_n hx hb dMr_type_0 rfl (lv_at hl 1 rfl) ?_
  refine lv_bipush (v := iI 32) hx hb dMr_type_1 (by decide) ?_
  refine iv_icmp_lt (tgt := 27) hx hb dMr_type_3 (by decide) ⟨by omega, by omega⟩ ⟨by decide, by decide⟩ (fun hc3 => ?_) (fun hc3 => ?_)
  · refine lv_iconst (v := iI 0) hx hb dMr_type_27 rfl ?_
    exact rt_z hx hb hr hlocks hK hS dMr_type_28 (nrw_bool (by omega)) (D, at_, en) hP hD (show 0 = (typA st ch).1 ∧ CIx D at_ en (typA st ch).2 from by first | (unfold typA; rw [if_pos (by omega)]; exact ⟨rfl, hCI⟩) | (refine ⟨?_, hty.2⟩; rw [← hty.1]; omega))
  · refine lv_iload_n hx hb dMr_type_6 rfl (lv_at hl 1 rfl) ?_
    refine lv_bipush (v := iI 126) hx hb dMr_type_7 (by decide) ?_
    refine iv_icmp_gt (tgt := 27) hx hb dMr_type_9 (by decide) ⟨by omega, by omega⟩ ⟨by decide, by decide⟩ (fun hc9 => ?_) (fun hc9 => ?_)
    · refine lv_iconst (v := iI 0) hx hb dMr_type_27 rfl ?_
      exact rt_z hx hb hr hlocks hK hS dMr_type_28 (nrw_bool (by omega)) (D, at_, en) hP hD (show 0 = (typA st ch).1 ∧ CIx D at_ en (typA st ch).2 from by first | (unfold typA; rw [if_pos (by omega)]; exact ⟨rfl, hCI⟩) | (refine ⟨?_, hty.2⟩; rw [← hty.1]; omega))
    · refine lv_aload_n hx hb dMr_type_12 rfl (lv_at hl 0 rfl) ?_
      refine va_get (D := (dC, dI)) (ci := 6) (v := .ref (b + 1)) (C := "MacroReckoner") (T := TMr) (N := 11) hx hb hts inMr hown hK hP 0 rfl rfl 0 (by decide) (hts _ wt1_173) (fun _ h9 => h9) rfl dMr_type_13 ?_
      refine lv_iload_n hx hb dMr_type_16 rfl (lv_at hl 1 rfl) ?_
      refine cvT_i (we := wMr dA b tr hg wk at_ en cm rg st0 en0 lg tR ngR scR lnR uR lu ru su qu pl rv si D CR FR LF RF SF QF P []) (tl := tl0 dA b vs tp) (va_runV (C := "MacroReckoner$Tape") (As := [.int (iI ch)]) (rest := []) ⟨hx, hb, hml, hown, hts⟩ (cTa_append l dC dI dA (b + 1) (b + 2) 100 D at_ en ch (by exact hCI.1) (by omega) H.size) (cwV 1 hts (gdV wt1_211 wt1_212 wt1_213 wt1_2 wt1_214) rfl rfl rfl ⟨rfl, by decide, by decide, by decide +kernel⟩ ⟨by decide, by decide⟩) (preV (q := ("MacroReckoner$Tape", TTa, 3)) hK hP hD hS hA XN_ok trivial [1, 2] rfl rfl 0 rfl rfl) rfl rfl hl.1 rfl (lv_room (Nat.le_of_ble_eq_true rfl)) dMr_type_17 ⟨Nat.zero_le _, Nat.zero_le _⟩) hP hD hS hA [1, 2] [0, 3, 4, 5, 6, 7, 8, 9, 10, 11, 12, 13, 14, 15, 16, 17, 18, 19, 20, 21] rfl (fun v_ => wMr dA b tr hg wk v_.2.1 v_.2.2 cm rg st0 en0 lg tR ngR scR lnR uR lu ru su qu pl rv si v_.1 CR FR LF RF SF QF P []) (fun _ => rfl) ((b, .inr (6, [.ref (b + 1), .ref (b + 3), .int (iI tr), .ref (b + 4), .ref (b + 5), .int (iI hg), .ref (b + 6), .int (iI wk), .ref (b + 7), .ref (b + 11), .ref (b + 20)])) :: (b + 3, .inl (dA 5, 8, .inr (.inr (.inr (.inr (arR (tfA b))))))) :: (b + 4, .inr (3, [.int (iI cm), .int (iI rg), rv, .int (iI st0), .int (iI en0), .int (iI lg)])) :: (b + 5, .inl (dA 4, 20, .inr (.inr (.inr (.inr (arR (sfA b si))))))) :: (b + 6, .inl (dA 4, 26, .inr (.inr (.inr (.inr (arR (rfA b))))))) :: (b + 7, .inr (4, [.int (iI tR), .ref (b + 8), .int (iI ngR), .int (iI scR), .ref (b + 10), .int (iI lnR)])) :: (b + 8, .inr (5, [.ref (b + 9), .int (iI uR)])) :: (b + 9, .inl (dA 0, 32, .inl (arI FR))) :: (b + 10, .inl (dA 1, 60, .inl (arI CR))) :: (b + 11, .inr (0, [.ref (b + 7), .ref (b + 12), .ref (b + 14), .ref (b + 16), .ref (b + 18)])) :: (b + 12, .inr (5, [.ref (b + 13), .int (iI lu)])) :: (b + 13, .inl (dA 0, 32, .inl (arI LF))) :: (b + 14, .inr (5, [.ref (b + 15), .int (iI ru)])) :: (b + 15, .inl (dA 0, 32, .inl (arI RF))) :: (b + 16, .inr (5, [.ref (b + 17), .int (iI su)])) :: (b + 17, .inl (dA 0, 32, .inl (arI SF))) :: (b + 18, .inr (5, [.ref (b + 19), .int (iI qu)])) :: (b + 19, .inl (dA 0, 32, .inl (arI QF))) :: (b + 20, .inr (1, [.ref (b + 21), .int (iI pl)])) :: (b + 21, .inl (dA 1, 200, .inl (arI P))) :: []) rfl (fun _ => rfl) [b, b + 1, b + 2, b + 3, b + 4, b + 5, b + 6, b + 7, b + 8, b + 9, b + 10, b + 11, b + 12, b + 13, b + 14, b + 15, b + 16, b + 17, b + 18, b + 19, b + 20, b + 21] rfl (fun _ => rfl) (fun _ => rfl) (fun r17 u_ H locs hq17 hP hD hS => ?_)
      obtain ⟨D1_17, a1_17, e1_17⟩ := u_
      have hP : va_P (dC, dI) vwCl (wMr dA b tr hg wk a1_17 e1_17 cm rg st0 en0 lg tR ngR scR lnR uR lu ru su qu pl rv si D1_17 CR FR LF RF SF QF P (tl0 dA b vs tp)) H := hP
      have hD : va_D A (wMr dA b tr hg wk a1_17 e1_17 cm rg st0 en0 lg tR ngR scR lnR uR lu ru su qu pl rv si D1_17 CR FR LF RF SF QF P (tl0 dA b vs tp)) := hD
      have hq17 : TP 100 D1_17 a1_17 e1_17 ∧ (∀ j, 0 ≤ j → j < en - at_ → D1_17 (a1_17 + j) = D (at_ + j)) ∧ ((r17 = 1 ∧ en - at_ < 100 ∧ e1_17 - a1_17 = en - at_ + 1 ∧ D1_17 (a1_17 + (en - at_)) = ch) ∨ (r17 = 0 ∧ en - at_ = 100 ∧ e1_17 - a1_17 = en - at_)) := hq17
      have hr17 : r17 = 0 ∨ r17 = 1 := by rcases hq17.2.2 with ⟨z, -⟩ | ⟨z, -⟩ <;> omega
      have hty := typC hCI ⟨by omega, by omega⟩ hq17.1 hq17.2.1 hq17.2.2
      refine iv_if_eq (tgt := 27) hx hb dMr_type_20 (by decide) ⟨by omega, by omega⟩ (fun hc20 => ?_) (fun hc20 => ?_)
      · refine lv_iconst (v := iI 0) hx hb dMr_type_27 rfl ?_
        exact rt_z hx hb hr hlocks hK hS dMr_type_28 (nrw_bool (by omega)) (D1_17, a1_17, e1_17) hP hD (show 0 = (typA st ch).1 ∧ CIx D1_17 a1_17 e1_17 (typA st ch).2 from by first | (unfold typA; rw [if_pos (by omega)]; exact ⟨rfl, hCI⟩) | (refine ⟨?_, hty.2⟩; rw [← hty.1]; omega))
      · refine lv_iconst (v := iI 1) hx hb dMr_type_23 rfl ?_
        refine lv_goto (tgt := 28) hx hb dMr_type_24 (by decide) ?_
        exact rt_z hx hb hr hlocks hK hS dMr_type_28 (nrw_bool (by omega)) (D1_17, a1_17, e1_17) hP hD (show 1 = (typA st ch).1 ∧ CIx D1_17 a1_17 e1_17 (typA st ch).2 from by first | (unfold typA; rw [if_pos (by omega)]; exact ⟨rfl, hCI⟩) | (refine ⟨?_, hty.2⟩; rw [← hty.1]; omega))

theorem dMr_drop_0 : decode prog_1_method_4_code 0 = .ok (.aload_n 0, 1) := by decide +kernel
theorem dMr_drop_1 : decode prog_1_method_4_code 1 = .ok (.getfield 14, 3) := by decide +kernel
theorem dMr_drop_4 : decode prog_1_method_4_code 4 = .ok (.invokevirtual 98, 3) := by decide +kernel
theorem dMr_drop_7 : decode prog_1_method_4_code 7 = .ok (.istore_n 1, 1) := by decide +kernel
theorem dMr_drop_8 : decode prog_1_method_4_code 8 = .ok (.aload_n 0, 1) := by decide +kernel
theorem dMr_drop_9 : decode prog_1_method_4_code 9 = .ok (.getfield 14, 3) := by decide +kernel
theorem dMr_drop_12 : decode prog_1_method_4_code 12 = .ok (.invokevirtual 101, 3) := by decide +kernel
theorem dMr_drop_15 : decode prog_1_method_4_code 15 = .ok (.aload_n 0, 1) := by decide +kernel
theorem dMr_drop_16 : decode prog_1_method_4_code 16 = .ok (.iconst 0, 1) := by decide +kernel
theorem dMr_drop_17 : decode prog_1_method_4_code 17 = .ok (.putfield 22, 3) := by decide +kernel
theorem dMr_drop_20 : decode prog_1_method_4_code 20 = .ok (.iload_n 1, 1) := by decide +kernel
theorem dMr_drop_21 : decode prog_1_method_4_code 21 = .ok (.ireturn, 1) := by decide +kernel
abbrev qMr_drop (dC : Nat → ClassId) (dI : Nat → Nat → Nat) (dA : Nat → ClassId) (dS : Nat → Nat) (b : Nat) (tr : Int) (hg : Int) (wk : Int) (at_ : Int) (en : Int) (cm : Int) (rg : Int) (st0 : Int) (en0 : Int) (lg : Int) (tR : Int) (ngR : Int) (scR : Int) (lnR : Int) (uR : Int) (lu : Int) (ru : Int) (su : Int) (qu : Int) (pl : Int) (rv : Value) (si : Int → Nat) (D : Int → Int) (CR : Int → Int) (FR : Int → Int) (LF : Int → Int) (RF : Int → Int) (SF : Int → Int) (QF : Int → Int) (P : Int → Int) (vs : Nat → VS) (tp : Nat → TS) (A : Nat → Prop) : Array Value → State → Outcome → State → Prop := QI (dC, dI) vwCl (tyA dA) (fun (r : Int) (v_ : Unit) => r = en - at_) (fun (v_ : Unit) => wMr dA b 0 hg wk 0 0 cm rg st0 en0 lg tR ngR scR lnR uR lu ru su qu pl rv si D CR FR LF RF SF QF P (tl0 dA b vs tp)) A
abbrev rmMr_drop : Room := { frames := 1, cells := 0, slots := 0, locals := 20 }
set_option maxRecDepth 100000 in
set_option maxHeartbeats 1000000 in
theorem cMr_drop (l : Launch) (dC : Nat → ClassId) (dI : Nat → Nat → Nat) (dA : Nat → ClassId) (dS : Nat → Nat) (b : Nat) (tr : Int) (hg : Int) (wk : Int) (at_ : Int) (en : Int) (cm : Int) (rg : Int) (st0 : Int) (en0 : Int) (lg : Int) (tR : Int) (ngR : Int) (scR : Int) (lnR : Int) (uR : Int) (lu : Int) (ru : Int) (su : Int) (qu : Int) (pl : Int) (rv : Value) (si : Int → Nat) (D : Int → Int) (CR : Int → Int) (FR : Int → Int) (LF : Int → Int) (RF : Int → Int) (SF : Int → Int) (QF : Int → Int) (P : Int → Int) (vs : Nat → VS) (tp : Nat → TS)  (sz : Nat) : Met l yMr_drop wsMr_drop rmMr_drop (PC (dC, dI) vwCl (tyA dA) (XC dS) [.ref b] (wMr dA b tr hg wk at_ en cm rg st0 en0 lg tR ngR scR lnR uR lu ru su qu pl rv si D CR FR LF RF SF QF P (tl0 dA b vs tp)) sz) (qMr_drop dC dI dA dS b tr hg wk at_ en cm rg st0 en0 lg tR ngR scR lnR uR lu ru su qu pl rv si D CR FR LF RF SF QF P vs tp (va_A (wMr dA b tr hg wk at_ en cm rg st0 en0 lg tR ngR scR lnR uR lu ru su qu pl rv si D CR FR LF RF SF QF P (tl0 dA b vs tp)) sz)) 0 0 (va_A (wMr dA b tr hg wk at_ en cm rg st0 en0 lg tR ngR scR lnR uR lu ru su qu pl rv si D CR FR LF RF SF QF P (tl0 dA b vs tp)) sz) := by
  refine met_of (cc := prog_1_method_4_code) (maxL := 2) (ret := (some .int)) (Qc := qMr_drop dC dI dA dS b tr hg wk at_ en cm rg st0 en0 lg tR ngR scR lnR uR lu ru su qu pl rv si D CR FR LF RF SF QF P vs tp) (XC_ok dS) (by decide) rfl (Nat.le_of_ble_eq_true rfl) ?_
  intro p e s m below meth c ls A hx hb hr hml hown hts hlocks hnm hK hP hD hA hX hS hl
  have hl : lv_has ls 2 [(0, .ref b)] := hl
  have hown : s.vm.findClass "MacroReckoner" = some m.cls := hown
  obtain ⟨H, hH⟩ : ∃ H : Heap, H = s.heap := ⟨_, rfl⟩
  obtain ⟨locs, hlo⟩ : ∃ L : List Loc, L = [] := ⟨_, rfl⟩
  have hP : va_P (dC, dI) vwCl (wMr dA b tr hg wk at_ en cm rg st0 en0 lg tR ngR scR lnR uR lu ru su qu pl rv si D CR FR LF RF SF QF P (tl0 dA b vs tp)) H := hH ▸ hP
  have hS : va_S A s.heap H locs := by rw [hH, hlo]; exact hS
  suffices hgo : W p l e rmMr_drop s m [.ref b].toArray below meth c H locs 0 0 (MQ below (qMr_drop dC dI dA dS b tr hg wk at_ en cm rg st0 en0 lg tR ngR scR lnR uR lu ru su qu pl rv si D CR FR LF RF SF QF P vs tp A) [.ref b].toArray s 0 0 A) (F0 m 0 ls []) by rw [hH, hlo] at hgo; exact hgo
  clear hH hlo
  refine lv_aload_n hx hb dMr_drop_0 rfl (lv_at hl 0 rfl) ?_
  refine va_get (D := (dC, dI)) (ci := 6) (v := .ref (b + 1)) (C := "MacroReckoner") (T := TMr) (N := 11) hx hb hts inMr hown hK hP 0 rfl rfl 0 (by decide) (hts _ wt1_173) (fun _ h9 => h9) rfl dMr_drop_1 ?_
  refine cvT_i (we := wMr dA b tr hg wk at_ en cm rg st0 en0 lg tR ngR scR lnR uR lu ru su qu pl rv si D CR FR LF RF SF QF P []) (tl := tl0 dA b vs tp) (va_runV (C := "MacroReckoner$Tape") (As := []) (rest := []) ⟨hx, hb, hml, hown, hts⟩ (cTa_left l dC dI dA (b + 1) (b + 2) 100 D at_ en  H.size) (cwV 0 hts (gdV wt1_222 wt1_223 wt1_224 wt1_2 wt1_225) rfl rfl rfl ⟨rfl, by decide, by decide, by decide +kernel⟩ ⟨by decide, by decide⟩) (preV (q := ("MacroReckoner$Tape", TTa, 3)) hK hP hD hS hA XN_ok trivial [1, 2] rfl rfl 0 rfl rfl) rfl rfl hl.1 rfl (lv_room (Nat.le_of_ble_eq_true rfl)) dMr_drop_4 ⟨Nat.zero_le _, Nat.zero_le _⟩) hP hD hS hA [1, 2] [0, 3, 4, 5, 6, 7, 8, 9, 10, 11, 12, 13, 14, 15, 16, 17, 18, 19, 20, 21] rfl (fun v_ => wMr dA b tr hg wk at_ en cm rg st0 en0 lg tR ngR scR lnR uR lu ru su qu pl rv si D CR FR LF RF SF QF P []) (fun _ => rfl) ((b, .inr (6, [.ref (b + 1), .ref (b + 3), .int (iI tr), .ref (b + 4), .ref (b + 5), .int (iI hg), .ref (b + 6), .int (iI wk), .ref (b + 7), .ref (b + 11), .ref (b + 20)])) :: (b + 3, .inl (dA 5, 8, .inr (.inr (.inr (.inr (arR (tfA b))))))) :: (b + 4, .inr (3, [.int (iI cm), .int (iI rg), rv, .int (iI st0), .int (iI en0), .int (iI lg)])) :: (b + 5, .inl (dA 4, 20, .inr (.inr (.inr (.inr (arR (sfA b si))))))) :: (b + 6, .inl (dA 4, 26, .inr (.inr (.inr (.inr (arR (rfA b))))))) :: (b + 7, .inr (4, [.int (iI tR), .ref (b + 8), .int (iI ngR), .int (iI scR), .ref (b + 10), .int (iI lnR)])) :: (b + 8, .inr (5, [.ref (b + 9), .int (iI uR)])) :: (b + 9, .inl (dA 0, 32, .inl (arI FR))) :: (b + 10, .inl (dA 1, 60, .inl (arI CR))) :: (b + 11, .inr (0, [.ref (b + 7), .ref (b + 12), .ref (b + 14), .ref (b + 16), .ref (b + 18)])) :: (b + 12, .inr (5, [.ref (b + 13), .int (iI lu)])) :: (b + 13, .inl (dA 0, 32, .inl (arI LF))) :: (b + 14, .inr (5, [.ref (b + 15), .int (iI ru)])) :: (b + 15, .inl (dA 0, 32, .inl (arI RF))) :: (b + 16, .inr (5, [.ref (b + 17), .int (iI su)])) :: (b + 17, .inl (dA 0, 32, .inl (arI SF))) :: (b + 18, .inr (5, [.ref (b + 19), .int (iI qu)])) :: (b + 19, .inl (dA 0, 32, .inl (arI QF))) :: (b + 20, .inr (1, [.ref (b + 21), .int (iI pl)])) :: (b + 21, .inl (dA 1, 200, .inl (arI P))) :: []) rfl (fun _ => rfl) [b, b + 1, b + 2, b + 3, b + 4, b + 5, b + 6, b + 7, b + 8, b + 9, b + 10, b + 11, b + 12, b + 13, b + 14, b + 15, b + 16, b + 17, b + 18, b + 19, b + 20, b + 21] rfl (fun _ => rfl) (fun _ => rfl) (fun r4 u_ H locs hq4 hP hD hS => ?_)
  have hP : va_P (dC, dI) vwCl (wMr dA b tr hg wk at_ en cm rg st0 en0 lg tR ngR scR lnR uR lu ru su qu pl rv si D CR FR LF RF SF QF P (tl0 dA b vs tp)) H := hP
  have hD : va_D A (wMr dA b tr hg wk at_ en cm rg st0 en0 lg tR ngR scR lnR uR lu ru su qu pl rv si D CR FR LF RF SF QF P (tl0 dA b vs tp)) := hD
  have hq4 : r4 = en - at_ := hq4
  refine lv_istore_n (lv' := [(1, .int (iI r4)), (0, .ref b)]) hx hb dMr_drop_7 rfl hl (by decide) rfl (fun ls hl => ?_)
  refine lv_aload_n hx hb dMr_drop_8 rfl (lv_at hl 1 rfl) ?_
  refine va_get (D := (dC, dI)) (ci := 6) (v := .ref (b + 1)) (C := "MacroReckoner") (T := TMr) (N := 11) hx hb hts inMr hown hK hP 0 rfl rfl 0 (by decide) (hts _ wt1_173) (fun _ h9 => h9) rfl dMr_drop_9 ?_
  refine cvT_v (we := wMr dA b tr hg wk at_ en cm rg st0 en0 lg tR ngR scR lnR uR lu ru su qu pl rv si D CR FR LF RF SF QF P []) (tl := tl0 dA b vs tp) (va_runV (C := "MacroReckoner$Tape") (As := []) (rest := []) ⟨hx, hb, hml, hown, hts⟩ (cTa_clear l dC dI dA (b + 1) (b + 2) 100 D at_ en  H.size) (cwV 0 hts (gdV wt1_226 wt1_227 wt1_228 wt1_2 wt1_229) rfl rfl rfl ⟨rfl, by decide, by decide, by decide +kernel⟩ ⟨by decide, by decide⟩) (preV (q := ("MacroReckoner$Tape", TTa, 3)) hK hP hD hS hA XN_ok trivial [1, 2] rfl rfl 0 rfl rfl) rfl rfl hl.1 rfl (lv_room (Nat.le_of_ble_eq_true rfl)) dMr_drop_12 ⟨Nat.zero_le _, Nat.zero_le _⟩) hP hD hS hA [1, 2] [0, 3, 4, 5, 6, 7, 8, 9, 10, 11, 12, 13, 14, 15, 16, 17, 18, 19, 20, 21] rfl (fun v_ => wMr dA b tr hg wk 0 0 cm rg st0 en0 lg tR ngR scR lnR uR lu ru su qu pl rv si D CR FR LF RF SF QF P []) (fun _ => rfl) ((b, .inr (6, [.ref (b + 1), .ref (b + 3), .int (iI tr), .ref (b + 4), .ref (b + 5), .int (iI hg), .ref (b + 6), .int (iI wk), .ref (b + 7), .ref (b + 11), .ref (b + 20)])) :: (b + 3, .inl (dA 5, 8, .inr (.inr (.inr (.inr (arR (tfA b))))))) :: (b + 4, .inr (3, [.int (iI cm), .int (iI rg), rv, .int (iI st0), .int (iI en0), .int (iI lg)])) :: (b + 5, .inl (dA 4, 20, .inr (.inr (.inr (.inr (arR (sfA b si))))))) :: (b + 6, .inl (dA 4, 26, .inr (.inr (.inr (.inr (arR (rfA b))))))) :: (b + 7, .inr (4, [.int (iI tR), .ref (b + 8), .int (iI ngR), .int (iI scR), .ref (b + 10), .int (iI lnR)])) :: (b + 8, .inr (5, [.ref (b + 9), .int (iI uR)])) :: (b + 9, .inl (dA 0, 32, .inl (arI FR))) :: (b + 10, .inl (dA 1, 60, .inl (arI CR))) :: (b + 11, .inr (0, [.ref (b + 7), .ref (b + 12), .ref (b + 14), .ref (b + 16), .ref (b + 18)])) :: (b + 12, .inr (5, [.ref (b + 13), .int (iI lu)])) :: (b + 13, .inl (dA 0, 32, .inl (arI LF))) :: (b + 14, .inr (5, [.ref (b + 15), .int (iI ru)])) :: (b + 15, .inl (dA 0, 32, .inl (arI RF))) :: (b + 16, .inr (5, [.ref (b + 17), .int (iI su)])) :: (b + 17, .inl (dA 0, 32, .inl (arI SF))) :: (b + 18, .inr (5, [.ref (b + 19), .int (iI qu)])) :: (b + 19, .inl (dA 0, 32, .inl (arI QF))) :: (b + 20, .inr (1, [.ref (b + 21), .int (iI pl)])) :: (b + 21, .inl (dA 1, 200, .inl (arI P))) :: []) rfl (fun _ => rfl) [b, b + 1, b + 2, b + 3, b + 4, b + 5, b + 6, b + 7, b + 8, b + 9, b + 10, b + 11, b + 12, b + 13, b + 14, b + 15, b + 16, b + 17, b + 18, b + 19, b + 20, b + 21] rfl (fun _ => rfl) (fun _ => rfl) (fun u_ H locs hq12 hP hD hS => ?_)
  have hP : va_P (dC, dI) vwCl (wMr dA b tr hg wk 0 0 cm rg st0 en0 lg tR ngR scR lnR uR lu ru su qu pl rv si D CR FR LF RF SF QF P (tl0 dA b vs tp)) H := hP
  have hD : va_D A (wMr dA b tr hg wk 0 0 cm rg st0 en0 lg tR ngR scR lnR uR lu ru su qu pl rv si D CR FR LF RF SF QF P (tl0 dA b vs tp)) := hD
  have hq12 : True := hq12
  refine lv_aload_n hx hb dMr_drop_15 rfl (lv_at hl 1 rfl) ?_
  refine lv_iconst (v := iI 0) hx hb dMr_drop_16 rfl ?_
  refine va_put (D := (dC, dI)) (ci := 6) (v := .int (iI 0)) (ty := .int) (C := "MacroReckoner") (T := TMr) (N := 11) hx hb hts inMr tyMr tyMr_ok nmMr hown hK hP hD hS 0 rfl rfl 2 (by decide) (hts _ wt1_175) (fun _ h9 => h9) rfl (by decide +kernel) rfl rfl (Nat.le_of_ble_eq_true rfl) dMr_drop_17 (fun H locs hP hD hS => ?_)
  have hP : va_P (dC, dI) vwCl (wMr dA b 0 hg wk 0 0 cm rg st0 en0 lg tR ngR scR lnR uR lu ru su qu pl rv si D CR FR LF RF SF QF P (tl0 dA b vs tp)) H := hP
  have hD : va_D A (wMr dA b 0 hg wk 0 0 cm rg st0 en0 lg tR ngR scR lnR uR lu ru su qu pl rv si D CR FR LF RF SF QF P (tl0 dA b vs tp)) := hD
  refine lv_iload_n hx hb dMr_drop_20 rfl (lv_at hl 0 rfl) ?_
  exact rt_i hx hb hr hlocks hK hS dMr_drop_21 () hP hD (show r4 = en - at_ from by exact hq4)

theorem dMr_depth_0 : decode prog_1_method_5_code 0 = .ok (.aload_n 0, 1) := by decide +kernel
theorem dMr_depth_1 : decode prog_1_method_5_code 1 = .ok (.getfield 39, 3) := by decide +kernel
theorem dMr_depth_4 : decode prog_1_method_5_code 4 = .ok (.ireturn, 1) := by decide +kernel
abbrev qMr_depth (dC : Nat → ClassId) (dI : Nat → Nat → Nat) (dA : Nat → ClassId) (dS : Nat → Nat) (b : Nat) (tr : Int) (hg : Int) (wk : Int) (at_ : Int) (en : Int) (cm : Int) (rg : Int) (st0 : Int) (en0 : Int) (lg : Int) (tR : Int) (ngR : Int) (scR : Int) (lnR : Int) (uR : Int) (lu : Int) (ru : Int) (su : Int) (qu : Int) (pl : Int) (rv : Value) (si : Int → Nat) (D : Int → Int) (CR : Int → Int) (FR : Int → Int) (LF : Int → Int) (RF : Int → Int) (SF : Int → Int) (QF : Int → Int) (P : Int → Int) (vs : Nat → VS) (tp : Nat → TS) (A : Nat → Prop) : Array Value → State → Outcome → State → Prop := QI (dC, dI) vwCl (tyA dA) (fun (r : Int) (v_ : Unit) => r = hg) (fun (v_ : Unit) => wMr dA b tr hg wk at_ en cm rg st0 en0 lg tR ngR scR lnR uR lu ru su qu pl rv si D CR FR LF RF SF QF P (tl0 dA b vs tp)) A
abbrev rmMr_depth : Room := { frames := 0, cells := 0, slots := 0, locals := 0 }
set_option maxRecDepth 100000 in
set_option maxHeartbeats 1000000 in
theorem cMr_depth (l : Launch) (dC : Nat → ClassId) (dI : Nat → Nat → Nat) (dA : Nat → ClassId) (dS : Nat → Nat) (b : Nat) (tr : Int) (hg : Int) (wk : Int) (at_ : Int) (en : Int) (cm : Int) (rg : Int) (st0 : Int) (en0 : Int) (lg : Int) (tR : Int) (ngR : Int) (scR : Int) (lnR : Int) (uR : Int) (lu : Int) (ru : Int) (su : Int) (qu : Int) (pl : Int) (rv : Value) (si : Int → Nat) (D : Int → Int) (CR : Int → Int) (FR : Int → Int) (LF : Int → Int) (RF : Int → Int) (SF : Int → Int) (QF : Int → Int) (P : Int → Int) (vs : Nat → VS) (tp : Nat → TS)  (sz : Nat) : Met l yMr_depth wsMr_depth rmMr_depth (PC (dC, dI) vwCl (tyA dA) (XC dS) [.ref b] (wMr dA b tr hg wk at_ en cm rg st0 en0 lg tR ngR scR lnR uR lu ru su qu pl rv si D CR FR LF RF SF QF P (tl0 dA b vs tp)) sz) (qMr_depth dC dI dA dS b tr hg wk at_ en cm rg st0 en0 lg tR ngR scR lnR uR lu ru su qu pl rv si D CR FR LF RF SF QF P vs tp (va_A (wMr dA b tr hg wk at_ en cm rg st0 en0 lg tR ngR scR lnR uR lu ru su qu pl rv si D CR FR LF RF SF QF P (tl0 dA b vs tp)) sz)) 0 0 (va_A (wMr dA b tr hg wk at_ en cm rg st0 en0 lg tR ngR scR lnR uR lu ru su qu pl rv si D CR FR LF RF SF QF P (tl0 dA b vs tp)) sz) := by
  refine met_of (cc := prog_1_method_5_code) (maxL := 1) (ret := (some .int)) (Qc := qMr_depth dC dI dA dS b tr hg wk at_ en cm rg st0 en0 lg tR ngR scR lnR uR lu ru su qu pl rv si D CR FR LF RF SF QF P vs tp) (XC_ok dS) (by decide) rfl (Nat.le_of_ble_eq_true rfl) ?_
  intro p e s m below meth c ls A hx hb hr hml hown hts hlocks hnm hK hP hD hA hX hS hl
  have hl : lv_has ls 1 [(0, .ref b)] := hl
  have hown : s.vm.findClass "MacroReckoner" = some m.cls := hown
  obtain ⟨H, hH⟩ : ∃ H : Heap, H = s.heap := ⟨_, rfl⟩
  obtain ⟨locs, hlo⟩ : ∃ L : List Loc, L = [] := ⟨_, rfl⟩
  have hP : va_P (dC, dI) vwCl (wMr dA b tr hg wk at_ en cm rg st0 en0 lg tR ngR scR lnR uR lu ru su qu pl rv si D CR FR LF RF SF QF P (tl0 dA b vs tp)) H := hH ▸ hP
  have hS : va_S A s.heap H locs := by rw [hH, hlo]; exact hS
  suffices hgo : W p l e rmMr_depth s m [.ref b].toArray below meth c H locs 0 0 (MQ below (qMr_depth dC dI dA dS b tr hg wk at_ en cm rg st0 en0 lg tR ngR scR lnR uR lu ru su qu pl rv si D CR FR LF RF SF QF P vs tp A) [.ref b].toArray s 0 0 A) (F0 m 0 ls []) by rw [hH, hlo] at hgo; exact hgo
  clear hH hlo
  refine lv_aload_n hx hb dMr_depth_0 rfl (lv_at hl 0 rfl) ?_
  refine va_get (D := (dC, dI)) (ci := 6) (v := .int (iI hg)) (C := "MacroReckoner") (T := TMr) (N := 11) hx hb hts inMr hown hK hP 0 rfl rfl 5 (by decide) (hts _ wt1_178) (fun _ h9 => h9) rfl dMr_depth_1 ?_
  exact rt_i hx hb hr hlocks hK hS dMr_depth_4 () hP hD (show hg = hg from by rfl)

theorem dMr_scale_0 : decode prog_1_method_6_code 0 = .ok (.aload_n 0, 1) := by decide +kernel
theorem dMr_scale_1 : decode prog_1_method_6_code 1 = .ok (.getfield 45, 3) := by decide +kernel
theorem dMr_scale_4 : decode prog_1_method_6_code 4 = .ok (.ireturn, 1) := by decide +kernel
abbrev qMr_scale (dC : Nat → ClassId) (dI : Nat → Nat → Nat) (dA : Nat → ClassId) (dS : Nat → Nat) (b : Nat) (tr : Int) (hg : Int) (wk : Int) (at_ : Int) (en : Int) (cm : Int) (rg : Int) (st0 : Int) (en0 : Int) (lg : Int) (tR : Int) (ngR : Int) (scR : Int) (lnR : Int) (uR : Int) (lu : Int) (ru : Int) (su : Int) (qu : Int) (pl : Int) (rv : Value) (si : Int → Nat) (D : Int → Int) (CR : Int → Int) (FR : Int → Int) (LF : Int → Int) (RF : Int → Int) (SF : Int → Int) (QF : Int → Int) (P : Int → Int) (vs : Nat → VS) (tp : Nat → TS) (A : Nat → Prop) : Array Value → State → Outcome → State → Prop := QI (dC, dI) vwCl (tyA dA) (fun (r : Int) (v_ : Unit) => r = wk) (fun (v_ : Unit) => wMr dA b tr hg wk at_ en cm rg st0 en0 lg tR ngR scR lnR uR lu ru su qu pl rv si D CR FR LF RF SF QF P (tl0 dA b vs tp)) A
abbrev rmMr_scale : Room := { frames := 0, cells := 0, slots := 0, locals := 0 }
set_option maxRecDepth 100000 in
set_option maxHeartbeats 1000000 in
theorem cMr_scale (l : Launch) (dC : Nat → ClassId) (dI : Nat → Nat → Nat) (dA : Nat → ClassId) (dS : Nat → Nat) (b : Nat) (tr : Int) (hg : Int) (wk : Int) (at_ : Int) (en : Int) (cm : Int) (rg : Int) (st0 : Int) (en0 : Int) (lg : Int) (tR : Int) (ngR : Int) (scR : Int) (lnR : Int) (uR : Int) (lu : Int) (ru : Int) (su : Int) (qu : Int) (pl : Int) (rv : Value) (si : Int → Nat) (D : Int → Int) (CR : Int → Int) (FR : Int → Int) (LF : Int → Int) (RF : Int → Int) (SF : Int → Int) (QF : Int → Int) (P : Int → Int) (vs : Nat → VS) (tp : Nat → TS)  (sz : Nat) : Met l yMr_scale wsMr_scale rmMr_scale (PC (dC, dI) vwCl (tyA dA) (XC dS) [.ref b] (wMr dA b tr hg wk at_ en cm rg st0 en0 lg tR ngR scR lnR uR lu ru su qu pl rv si D CR FR LF RF SF QF P (tl0 dA b vs tp)) sz) (qMr_scale dC dI dA dS b tr hg wk at_ en cm rg st0 en0 lg tR ngR scR lnR uR lu ru su qu pl rv si D CR FR LF RF SF QF P vs tp (va_A (wMr dA b tr hg wk at_ en cm rg st0 en0 lg tR ngR scR lnR uR lu ru su qu pl rv si D CR FR LF RF SF QF P (tl0 dA b vs tp)) sz)) 0 0 (va_A (wMr dA b tr hg wk at_ en cm rg st0 en0 lg tR ngR scR lnR uR lu ru su qu pl rv si D CR FR LF RF SF QF P (tl0 dA b vs tp)) sz) := by
  refine met_of (cc := prog_1_method_6_code) (maxL := 1) (ret := (some .int)) (Qc := qMr_scale dC dI dA dS b tr hg wk at_ en cm rg st0 en0 lg tR ngR scR lnR uR lu ru su qu pl rv si D CR FR LF RF SF QF P vs tp) (XC_ok dS) (by decide) rfl (Nat.le_of_ble_eq_true rfl) ?_
  intro p e s m below meth c ls A hx hb hr hml hown hts hlocks hnm hK hP hD hA hX hS hl
  have hl : lv_has ls 1 [(0, .ref b)] := hl
  have hown : s.vm.findClass "MacroReckoner" = some m.cls := hown
  obtain ⟨H, hH⟩ : ∃ H : Heap, H = s.heap := ⟨_, rfl⟩
  obtain ⟨locs, hlo⟩ : ∃ L : List Loc, L = [] := ⟨_, rfl⟩
  have hP : va_P (dC, dI) vwCl (wMr dA b tr hg wk at_ en cm rg st0 en0 lg tR ngR scR lnR uR lu ru su qu pl rv si D CR FR LF RF SF QF P (tl0 dA b vs tp)) H := hH ▸ hP
  have hS : va_S A s.heap H locs := by rw [hH, hlo]; exact hS
  suffices hgo : W p l e rmMr_scale s m [.ref b].toArray below meth c H locs 0 0 (MQ below (qMr_scale dC dI dA dS b tr hg wk at_ en cm rg st0 en0 lg tR ngR scR lnR uR lu ru su qu pl rv si D CR FR LF RF SF QF P vs tp A) [.ref b].toArray s 0 0 A) (F0 m 0 ls []) by rw [hH, hlo] at hgo; exact hgo
  clear hH hlo
  refine lv_aload_n hx hb dMr_scale_0 rfl (lv_at hl 0 rfl) ?_
  refine va_get (D := (dC, dI)) (ci := 6) (v := .int (iI wk)) (C := "MacroReckoner") (T := TMr) (N := 11) hx hb hts inMr hown hK hP 0 rfl rfl 7 (by decide) (hts _ wt1_180) (fun _ h9 => h9) rfl dMr_scale_1 ?_
  exact rt_i hx hb hr hlocks hK hS dMr_scale_4 () hP hD (show wk = wk from by rfl)

theorem dMr_running_0 : decode prog_1_method_7_code 0 = .ok (.aload_n 0, 1) := by decide +kernel
theorem dMr_running_1 : decode prog_1_method_7_code 1 = .ok (.invokevirtual 104, 3) := by decide +kernel
theorem dMr_running_4 : decode prog_1_method_7_code 4 = .ok (.aload_n 0, 1) := by decide +kernel
theorem dMr_running_5 : decode prog_1_method_7_code 5 = .ok (.getfield 22, 3) := by decide +kernel
theorem dMr_running_8 : decode prog_1_method_7_code 8 = .ok (.ireturn, 1) := by decide +kernel
abbrev qMr_running (dC : Nat → ClassId) (dI : Nat → Nat → Nat) (dA : Nat → ClassId) (dS : Nat → Nat) (b : Nat) (tr : Int) (hg : Int) (wk : Int) (at_ : Int) (en : Int) (cm : Int) (rg : Int) (st0 : Int) (en0 : Int) (lg : Int) (tR : Int) (ngR : Int) (scR : Int) (lnR : Int) (uR : Int) (lu : Int) (ru : Int) (su : Int) (qu : Int) (pl : Int) (rv : Value) (si : Int → Nat) (D : Int → Int) (CR : Int → Int) (FR : Int → Int) (LF : Int → Int) (RF : Int → Int) (SF : Int → Int) (QF : Int → Int) (P : Int → Int) (vs : Nat → VS) (tp : Nat → TS) (st : AS) (A : Nat → Prop) : Array Value → State → Outcome → State → Prop := QI (dC, dI) vwCl (tyA dA) (fun (r : Int) (v_ : Int) => r = st.tn ∧ v_ = st.tn) (fun (v_ : Int) => wMr dA b v_ hg wk at_ en cm rg st0 en0 lg tR ngR scR lnR uR lu ru su qu pl rv si D CR FR LF RF SF QF P (tl0 dA b vs tp)) A
abbrev rmMr_running : Room := { frames := 3, cells := 0, slots := 0, locals := 63 }
set_option maxRecDepth 100000 in
set_option maxHeartbeats 1000000 in
theorem cMr_running (l : Launch) (dC : Nat → ClassId) (dI : Nat → Nat → Nat) (dA : Nat → ClassId) (dS : Nat → Nat) (b : Nat) (tr : Int) (hg : Int) (wk : Int) (at_ : Int) (en : Int) (cm : Int) (rg : Int) (st0 : Int) (en0 : Int) (lg : Int) (tR : Int) (ngR : Int) (scR : Int) (lnR : Int) (uR : Int) (lu : Int) (ru : Int) (su : Int) (qu : Int) (pl : Int) (rv : Value) (si : Int → Nat) (D : Int → Int) (CR : Int → Int) (FR : Int → Int) (LF : Int → Int) (RF : Int → Int) (SF : Int → Int) (QF : Int → Int) (P : Int → Int) (vs : Nat → VS) (tp : Nat → TS) (st : AS) (hCX : CX tp tr st) (sz : Nat) : Met l yMr_running wsMr_running rmMr_running (PC (dC, dI) vwCl (tyA dA) (XC dS) [.ref b] (wMr dA b tr hg wk at_ en cm rg st0 en0 lg tR ngR scR lnR uR lu ru su qu pl rv si D CR FR LF RF SF QF P (tl0 dA b vs tp)) sz) (qMr_running dC dI dA dS b tr hg wk at_ en cm rg st0 en0 lg tR ngR scR lnR uR lu ru su qu pl rv si D CR FR LF RF SF QF P vs tp st (va_A (wMr dA b tr hg wk at_ en cm rg st0 en0 lg tR ngR scR lnR uR lu ru su qu pl rv si D CR FR LF RF SF QF P (tl0 dA b vs tp)) sz)) 0 0 (va_A (wMr dA b tr hg wk at_ en cm rg st0 en0 lg tR ngR scR lnR uR lu ru su qu pl rv si D CR FR LF RF SF QF P (tl0 dA b vs tp)) sz) := by
  refine met_of (cc := prog_1_method_7_code) (maxL := 1) (ret := (some .int)) (Qc := qMr_running dC dI dA dS b tr hg wk at_ en cm rg st0 en0 lg tR ngR scR lnR uR lu ru su qu pl rv si D CR FR LF RF SF QF P vs tp st) (XC_ok dS) (by decide) rfl (Nat.le_of_ble_eq_true rfl) ?_
  intro p e s m below meth c ls A hx hb hr hml hown hts hlocks hnm hK hP hD hA hX hS hl
  have hl : lv_has ls 1 [(0, .ref b)] := hl
  have hown : s.vm.findClass "MacroReckoner" = some m.cls := hown
  obtain ⟨H, hH⟩ : ∃ H : Heap, H = s.heap := ⟨_, rfl⟩
  obtain ⟨locs, hlo⟩ : ∃ L : List Loc, L = [] := ⟨_, rfl⟩
  have hP : va_P (dC, dI) vwCl (wMr dA b tr hg wk at_ en cm rg st0 en0 lg tR ngR scR lnR uR lu ru su qu pl rv si D CR FR LF RF SF QF P (tl0 dA b vs tp)) H := hH ▸ hP
  have hS : va_S A s.heap H locs := by rw [hH, hlo]; exact hS
  suffices hgo : W p l e rmMr_running s m [.ref b].toArray below meth c H locs 0 0 (MQ below (qMr_running dC dI dA dS b tr hg wk at_ en cm rg st0 en0 lg tR ngR scR lnR uR lu ru su qu pl rv si D CR FR LF RF SF QF P vs tp st A) [.ref b].toArray s 0 0 A) (F0 m 0 ls []) by rw [hH, hlo] at hgo; exact hgo
  clear hH hlo
  refine lv_aload_n hx hb dMr_running_0 rfl (lv_at hl 0 rfl) ?_
  refine cvA_v (va_runV (C := "MacroReckoner") (As := []) (rest := []) ⟨hx, hb, hml, hown, hts⟩ (cMr_forgetSpentTexts l dC dI dA dS b tr hg wk at_ en cm rg st0 en0 lg tR ngR scR lnR uR lu ru su qu pl rv si D CR FR LF RF SF QF P vs tp st (by exact hCX) H.size) (cwV 0 hts (gdV wt2_2 wt2_4 ws1_0 wt1_1 wt2_5) rfl rfl rfl ⟨rfl, by decide, by decide, by decide +kernel⟩ ⟨by decide, by decide⟩) (preVA (q := ("MacroReckoner", TMr, 11)) hK hP hD hS hA (XC_ok dS) hX 0 rfl rfl) rfl rfl hl.1 rfl (lv_room (Nat.le_of_ble_eq_true rfl)) dMr_running_1 ⟨Nat.zero_le _, Nat.zero_le _⟩) hD hS hA (fun u_ H locs hq1 hP hD hS => ?_)
  obtain ⟨tr1_1, rfl⟩ : ∃ z, z = u_ := ⟨_, rfl⟩
  have hP : va_P (dC, dI) vwCl (wMr dA b tr1_1 hg wk at_ en cm rg st0 en0 lg tR ngR scR lnR uR lu ru su qu pl rv si D CR FR LF RF SF QF P (tl0 dA b vs tp)) H := hP
  have hD : va_D A (wMr dA b tr1_1 hg wk at_ en cm rg st0 en0 lg tR ngR scR lnR uR lu ru su qu pl rv si D CR FR LF RF SF QF P (tl0 dA b vs tp)) := hD
  have hq1 : tr1_1 = st.tn := hq1
  refine lv_aload_n hx hb dMr_running_4 rfl (lv_at hl 0 rfl) ?_
  refine va_get (D := (dC, dI)) (ci := 6) (v := .int (iI tr1_1)) (C := "MacroReckoner") (T := TMr) (N := 11) hx hb hts inMr hown hK hP 0 rfl rfl 2 (by decide) (hts _ wt1_175) (fun _ h9 => h9) rfl dMr_running_5 ?_
  exact rt_i hx hb hr hlocks hK hS dMr_running_8 (tr1_1) hP hD (show tr1_1 = st.tn ∧ tr1_1 = st.tn from by exact ⟨hq1, hq1⟩)

theorem dMr_printed_0 : decode prog_1_method_9_code 0 = .ok (.aload_n 0, 1) := by decide +kernel
theorem dMr_printed_1 : decode prog_1_method_9_code 1 = .ok (.getfield 65, 3) := by decide +kernel
theorem dMr_printed_4 : decode prog_1_method_9_code 4 = .ok (.getfield 111, 3) := by decide +kernel
theorem dMr_printed_7 : decode prog_1_method_9_code 7 = .ok (.ireturn, 1) := by decide +kernel
abbrev qMr_printed (dC : Nat → ClassId) (dI : Nat → Nat → Nat) (dA : Nat → ClassId) (dS : Nat → Nat) (b : Nat) (tr : Int) (hg : Int) (wk : Int) (at_ : Int) (en : Int) (cm : Int) (rg : Int) (st0 : Int) (en0 : Int) (lg : Int) (tR : Int) (ngR : Int) (scR : Int) (lnR : Int) (uR : Int) (lu : Int) (ru : Int) (su : Int) (qu : Int) (pl : Int) (rv : Value) (si : Int → Nat) (D : Int → Int) (CR : Int → Int) (FR : Int → Int) (LF : Int → Int) (RF : Int → Int) (SF : Int → Int) (QF : Int → Int) (P : Int → Int) (vs : Nat → VS) (tp : Nat → TS) (A : Nat → Prop) : Array Value → State → Outcome → State → Prop := QI (dC, dI) vwCl (tyA dA) (fun (r : Int) (v_ : Unit) => r = pl) (fun (v_ : Unit) => wMr dA b tr hg wk at_ en cm rg st0 en0 lg tR ngR scR lnR uR lu ru su qu pl rv si D CR FR LF RF SF QF P (tl0 dA b vs tp)) A
abbrev rmMr_printed : Room := { frames := 0, cells := 0, slots := 0, locals := 0 }
set_option maxRecDepth 100000 in
set_option maxHeartbeats 1000000 in
theorem cMr_printed (l : Launch) (dC : Nat → ClassId) (dI : Nat → Nat → Nat) (dA : Nat → ClassId) (dS : Nat → Nat) (b : Nat) (tr : Int) (hg : Int) (wk : Int) (at_ : Int) (en : Int) (cm : Int) (rg : Int) (st0 : Int) (en0 : Int) (lg : Int) (tR : Int) (ngR : Int) (scR : Int) (lnR : Int) (uR : Int) (lu : Int) (ru : Int) (su : Int) (qu : Int) (pl : Int) (rv : Value) (si : Int → Nat) (D : Int → Int) (CR : Int → Int) (FR : Int → Int) (LF : Int → Int) (RF : Int → Int) (SF : Int → Int) (QF : Int → Int) (P : Int → Int) (vs : Nat → VS) (tp : Nat → TS)  (sz : Nat) : Met l yMr_printed wsMr_printed rmMr_printed (PC (dC, dI) vwCl (tyA dA) (XC dS) [.ref b] (wMr dA b tr hg wk at_ en cm rg st0 en0 lg tR ngR scR lnR uR lu ru su qu pl rv si D CR FR LF RF SF QF P (tl0 dA b vs tp)) sz) (qMr_printed dC dI dA dS b tr hg wk at_ en cm rg st0 en0 lg tR ngR scR lnR uR lu ru su qu pl rv si D CR FR LF RF SF QF P vs tp (va_A (wMr dA b tr hg wk at_ en cm rg st0 en0 lg tR ngR scR lnR uR lu ru su qu pl rv si D CR FR LF RF SF QF P (tl0 dA b vs tp)) sz)) 0 0 (va_A (wMr dA b tr hg wk at_ en cm rg st0 en0 lg tR ngR scR lnR uR lu ru su qu pl rv si D CR FR LF RF SF QF P (tl0 dA b vs tp)) sz) := by
  refine met_of (cc := prog_1_method_9_code) (maxL := 1) (ret := (some .int)) (Qc := qMr_printed dC dI dA dS b tr hg wk at_ en cm rg st0 en0 lg tR ngR scR lnR uR lu ru su qu pl rv si D CR FR LF RF SF QF P vs tp) (XC_ok dS) (by decide) rfl (Nat.le_of_ble_eq_true rfl) ?_
  intro p e s m below meth c ls A hx hb hr hml hown hts hlocks hnm hK hP hD hA hX hS hl
  have hl : lv_has ls 1 [(0, .ref b)] := hl
  have hown : s.vm.findClass "MacroReckoner" = some m.cls := hown
  obtain ⟨H, hH⟩ : ∃ H : Heap, H = s.heap := ⟨_, rfl⟩
  obtain ⟨locs, hlo⟩ : ∃ L : List Loc, L = [] := ⟨_, rfl⟩
  have hP : va_P (dC, dI) vwCl (wMr dA b tr hg wk at_ en cm rg st0 en0 lg tR ngR scR lnR uR lu ru su qu pl rv si D CR FR LF RF SF QF P (tl0 dA b vs tp)) H := hH ▸ hP
  have hS : va_S A s.heap H locs := by rw [hH, hlo]; exact hS
  suffices hgo : W p l e rmMr_printed s m [.ref b].toArray below meth c H locs 0 0 (MQ below (qMr_printed dC dI dA dS b tr hg wk at_ en cm rg st0 en0 lg tR ngR scR lnR uR lu ru su qu pl rv si D CR FR LF RF SF QF P vs tp A) [.ref b].toArray s 0 0 A) (F0 m 0 ls []) by rw [hH, hlo] at hgo; exact hgo
  clear hH hlo
  refine lv_aload_n hx hb dMr_printed_0 rfl (lv_at hl 0 rfl) ?_
  refine va_get (D := (dC, dI)) (ci := 6) (v := .ref (b + 20)) (C := "MacroReckoner") (T := TMr) (N := 11) hx hb hts inMr hown hK hP 0 rfl rfl 10 (by decide) (hts _ wt1_183) (fun _ h9 => h9) rfl dMr_printed_1 ?_
  refine va_getN (D := (dC, dI)) (ci := 1) (v := .int (iI pl)) (C := "MacroReckoner$Paper") (T := TPa) (N := 2) hx hb hts inPa hown hK hP 20 rfl rfl 1 (by decide) (va_Nw.use rfl (hX.1 ("MacroReckoner", 111, "MacroReckoner$Paper", "length", "I", "MacroReckoner") (List.mem_of_getElem? (i := 24) rfl))) (fun _ h9 => h9) rfl dMr_printed_4 ?_
  exact rt_i hx hb hr hlocks hK hS dMr_printed_7 () hP hD (show pl = pl from by rfl)

theorem dMr_charAt_0 : decode prog_1_method_10_code 0 = .ok (.iload_n 1, 1) := by decide +kernel
theorem dMr_charAt_1 : decode prog_1_method_10_code 1 = .ok (.ifCond .lt 26, 3) := by decide +kernel
theorem dMr_charAt_4 : decode prog_1_method_10_code 4 = .ok (.iload_n 1, 1) := by decide +kernel
theorem dMr_charAt_5 : decode prog_1_method_10_code 5 = .ok (.aload_n 0, 1) := by decide +kernel
theorem dMr_charAt_6 : decode prog_1_method_10_code 6 = .ok (.getfield 65, 3) := by decide +kernel
theorem dMr_charAt_9 : decode prog_1_method_10_code 9 = .ok (.getfield 111, 3) := by decide +kernel
theorem dMr_charAt_12 : decode prog_1_method_10_code 12 = .ok (.if_icmp .ge 15, 3) := by decide +kernel
theorem dMr_charAt_15 : decode prog_1_method_10_code 15 = .ok (.aload_n 0, 1) := by decide +kernel
theorem dMr_charAt_16 : decode prog_1_method_10_code 16 = .ok (.getfield 65, 3) := by decide +kernel
theorem dMr_charAt_19 : decode prog_1_method_10_code 19 = .ok (.getfield 114, 3) := by decide +kernel
theorem dMr_charAt_22 : decode prog_1_method_10_code 22 = .ok (.iload_n 1, 1) := by decide +kernel
theorem dMr_charAt_23 : decode prog_1_method_10_code 23 = .ok (.caload, 1) := by decide +kernel
theorem dMr_charAt_24 : decode prog_1_method_10_code 24 = .ok (.goto 4, 3) := by decide +kernel
theorem dMr_charAt_27 : decode prog_1_method_10_code 27 = .ok (.iconst 0, 1) := by decide +kernel
theorem dMr_charAt_28 : decode prog_1_method_10_code 28 = .ok (.ireturn, 1) := by decide +kernel
abbrev qMr_charAt (dC : Nat → ClassId) (dI : Nat → Nat → Nat) (dA : Nat → ClassId) (dS : Nat → Nat) (b : Nat) (tr : Int) (hg : Int) (wk : Int) (at_ : Int) (en : Int) (cm : Int) (rg : Int) (st0 : Int) (en0 : Int) (lg : Int) (tR : Int) (ngR : Int) (scR : Int) (lnR : Int) (uR : Int) (lu : Int) (ru : Int) (su : Int) (qu : Int) (pl : Int) (rv : Value) (si : Int → Nat) (D : Int → Int) (CR : Int → Int) (FR : Int → Int) (LF : Int → Int) (RF : Int → Int) (SF : Int → Int) (QF : Int → Int) (P : Int → Int) (vs : Nat → VS) (tp : Nat → TS) (p9 : Int) (A : Nat → Prop) : Array Value → State → Outcome → State → Prop := QI (dC, dI) vwCl (tyA dA) (fun (r : Int) (v_ : Unit) => (0 ≤ p9 ∧ p9 < pl ∧ r = P p9) ∨ ((p9 < 0 ∨ pl ≤ p9) ∧ r = 0)) (fun (v_ : Unit) => wMr dA b tr hg wk at_ en cm rg st0 en0 lg tR ngR scR lnR uR lu ru su qu pl rv si D CR FR LF RF SF QF P (tl0 dA b vs tp)) A
abbrev rmMr_charAt : Room := { frames := 0, cells := 0, slots := 0, locals := 0 }
set_option maxRecDepth 100000 in
set_option maxHeartbeats 1000000 in
theorem cMr_charAt (l : Launch) (dC : Nat → ClassId) (dI : Nat → Nat → Nat) (dA : Nat → ClassId) (dS : Nat → Nat) (b : Nat) (tr : Int) (hg : Int) (wk : Int) (at_ : Int) (en : Int) (cm : Int) (rg : Int) (st0 : Int) (en0 : Int) (lg : Int) (tR : Int) (ngR : Int) (scR : Int) (lnR : Int) (uR : Int) (lu : Int) (ru : Int) (su : Int) (qu : Int) (pl : Int) (rv : Value) (si : Int → Nat) (D : Int → Int) (CR : Int → Int) (FR : Int → Int) (LF : Int → Int) (RF : Int → Int) (SF : Int → Int) (QF : Int → Int) (P : Int → Int) (vs : Nat → VS) (tp : Nat → TS) (p9 : Int) (hp9 : r32 p9) (hpl : 0 ≤ pl ∧ pl ≤ 200) (hpc : ∀ j, 0 ≤ j → j < pl → 0 ≤ P j ∧ P j < 65536) (sz : Nat) : Met l yMr_charAt wsMr_charAt rmMr_charAt (PC (dC, dI) vwCl (tyA dA) (XC dS) [.ref b, .int (iI p9)] (wMr dA b tr hg wk at_ en cm rg st0 en0 lg tR ngR scR lnR uR lu ru su qu pl rv si D CR FR LF RF SF QF P (tl0 dA b vs tp)) sz) (qMr_charAt dC dI dA dS b tr hg wk at_ en cm rg st0 en0 lg tR ngR scR lnR uR lu ru su qu pl rv si D CR FR LF RF SF QF P vs tp p9 (va_A (wMr dA b tr hg wk at_ en cm rg st0 en0 lg tR ngR scR lnR uR lu ru su qu pl rv si D CR FR LF RF SF QF P (tl0 dA b vs tp)) sz)) 0 0 (va_A (wMr dA b tr hg wk at_ en cm rg st0 en0 lg tR ngR scR lnR uR lu ru su qu pl rv si D CR FR LF RF SF QF P (tl0 dA b vs tp)) sz) := by
  refine met_of (cc := prog_1_method_10_code) (maxL := 2) (ret := (some .char)) (Qc := qMr_charAt dC dI dA dS b tr hg wk at_ en cm rg st0 en0 lg tR ngR scR lnR uR lu ru su qu pl rv si D CR FR LF RF SF QF P vs tp p9) (XC_ok dS) (by decide) rfl (Nat.le_of_ble_eq_true rfl) ?_
  intro p e s m below meth c ls A hx hb hr hml hown hts hlocks hnm hK hP hD hA hX hS hl
  have hl : lv_has ls 2 [(0, .ref b), (1, .int (iI p9))] := hl
  have hown : s.vm.findClass "MacroReckoner" = some m.cls := hown
  obtain ⟨H, hH⟩ : ∃ H : Heap, H = s.heap := ⟨_, rfl⟩
  obtain ⟨locs, hlo⟩ : ∃ L : List Loc, L = [] := ⟨_, rfl⟩
  have hP : va_P (dC, dI) vwCl (wMr dA b tr hg wk at_ en cm rg st0 en0 lg tR ngR scR lnR uR lu ru su qu pl rv si D CR FR LF RF SF QF P (tl0 dA b vs tp)) H := hH ▸ hP
  have hS : va_S A s.heap H locs := by rw [hH, hlo]; exact hS
  suffices hgo : W p l e rmMr_charAt s m [.ref b, .int (iI p9)].toArray below meth c H locs 0 0 (MQ below (qMr_charAt dC dI dA dS b tr hg wk at_ en cm rg st0 en0 lg tR ngR scR lnR uR lu ru su qu pl rv si D CR FR LF RF SF QF P vs tp p9 A) [.ref b, .int (iI p9)].toArray s 0 0 A) (F0 m 0 ls []) by rw [hH, hlo] at hgo; exact hgo
  clear hH hlo
  refine lv_iload_n hx hb dMr_charAt_0 rfl (lv_at hl 1 rfl) ?_
  refine iv_if_lt (tgt := 27) hx hb dMr_charAt_1 (by decide) ⟨by omega, by omega⟩ (fun hc1 => ?_) (fun hc1 => ?_)
  · refine lv_iconst (v := iI 0) hx hb dMr_charAt_27 rfl ?_
    exact rt_z hx hb hr hlocks hK hS dMr_charAt_28 (nrw_char (by omega) (by omega)) () hP hD (show (0 ≤ p9 ∧ p9 < pl ∧ 0 = P p9) ∨ ((p9 < 0 ∨ pl ≤ p9) ∧ 0 = 0) from by omega)
  · refine lv_iload_n hx hb dMr_charAt_4 rfl (lv_at hl 1 rfl) ?_
    refine lv_aload_n hx hb dMr_charAt_5 rfl (lv_at hl 0 rfl) ?_
    refine va_get (D := (dC, dI)) (ci := 6) (v := .ref (b + 20)) (C := "MacroReckoner") (T := TMr) (N := 11) hx hb hts inMr hown hK hP 0 rfl rfl 10 (by decide) (hts _ wt1_183) (fun _ h9 => h9) rfl dMr_charAt_6 ?_
    refine va_getN (D := (dC, dI)) (ci := 1) (v := .int (iI pl)) (C := "MacroReckoner$Paper") (T := TPa) (N := 2) hx hb hts inPa hown hK hP 20 rfl rfl 1 (by decide) (va_Nw.use rfl (hX.1 ("MacroReckoner", 111, "MacroReckoner$Paper", "length", "I", "MacroReckoner") (List.mem_of_getElem? (i := 24) rfl))) (fun _ h9 => h9) rfl dMr_charAt_9 ?_
    refine iv_icmp_ge (tgt := 27) hx hb dMr_charAt_12 (by decide) ⟨by omega, by omega⟩ ⟨by omega, by omega⟩ (fun hc12 => ?_) (fun hc12 => ?_)
    · refine lv_iconst (v := iI 0) hx hb dMr_charAt_27 rfl ?_
      exact rt_z hx hb hr hlocks hK hS dMr_charAt_28 (nrw_char (by omega) (by omega)) () hP hD (show (0 ≤ p9 ∧ p9 < pl ∧ 0 = P p9) ∨ ((p9 < 0 ∨ pl ≤ p9) ∧ 0 = 0) from by omega)
    · refine lv_aload_n hx hb dMr_charAt_15 rfl (lv_at hl 0 rfl) ?_
      refine va_get (D := (dC, dI)) (ci := 6) (v := .ref (b + 20)) (C := "MacroReckoner") (T := TMr) (N := 11) hx hb hts inMr hown hK hP 0 rfl rfl 10 (by decide) (hts _ wt1_183) (fun _ h9 => h9) rfl dMr_charAt_16 ?_
      refine va_getN (D := (dC, dI)) (ci := 1) (v := .ref (b + 21)) (C := "MacroReckoner$Paper") (T := TPa) (N := 2) hx hb hts inPa hown hK hP 20 rfl rfl 0 (by decide) (va_Nw.use rfl (hX.1 ("MacroReckoner", 114, "MacroReckoner$Paper", "row", "[C", "MacroReckoner") (List.mem_of_getElem? (i := 23) rfl))) (fun _ h9 => h9) rfl dMr_charAt_19 ?_
      refine lv_iload_n hx hb dMr_charAt_22 rfl (lv_at hl 1 rfl) ?_
      have hc9 := hpc p9 (by omega) (by omega)
      refine iv_cald hx hb hK hP 21 1 rfl rfl (by decide) dMr_charAt_23 (by omega) (by omega) ?_
      refine lv_goto (tgt := 28) hx hb dMr_charAt_24 (by decide) ?_
      exact rt_z hx hb hr hlocks hK hS dMr_charAt_28 (nrw_char (by omega) (by omega)) () hP hD (show (0 ≤ p9 ∧ p9 < pl ∧ (P p9) = P p9) ∨ ((p9 < 0 ∨ pl ≤ p9) ∧ (P p9) = 0) from by omega)

theorem dMr_tear_0 : decode prog_1_method_11_code 0 = .ok (.aload_n 0, 1) := by decide +kernel
theorem dMr_tear_1 : decode prog_1_method_11_code 1 = .ok (.getfield 65, 3) := by decide +kernel
theorem dMr_tear_4 : decode prog_1_method_11_code 4 = .ok (.getfield 111, 3) := by decide +kernel
theorem dMr_tear_7 : decode prog_1_method_11_code 7 = .ok (.istore_n 1, 1) := by decide +kernel
theorem dMr_tear_8 : decode prog_1_method_11_code 8 = .ok (.aload_n 0, 1) := by decide +kernel
theorem dMr_tear_9 : decode prog_1_method_11_code 9 = .ok (.getfield 65, 3) := by decide +kernel
theorem dMr_tear_12 : decode prog_1_method_11_code 12 = .ok (.invokevirtual 118, 3) := by decide +kernel
theorem dMr_tear_15 : decode prog_1_method_11_code 15 = .ok (.iload_n 1, 1) := by decide +kernel
theorem dMr_tear_16 : decode prog_1_method_11_code 16 = .ok (.ireturn, 1) := by decide +kernel
abbrev qMr_tear (dC : Nat → ClassId) (dI : Nat → Nat → Nat) (dA : Nat → ClassId) (dS : Nat → Nat) (b : Nat) (tr : Int) (hg : Int) (wk : Int) (at_ : Int) (en : Int) (cm : Int) (rg : Int) (st0 : Int) (en0 : Int) (lg : Int) (tR : Int) (ngR : Int) (scR : Int) (lnR : Int) (uR : Int) (lu : Int) (ru : Int) (su : Int) (qu : Int) (pl : Int) (rv : Value) (si : Int → Nat) (D : Int → Int) (CR : Int → Int) (FR : Int → Int) (LF : Int → Int) (RF : Int → Int) (SF : Int → Int) (QF : Int → Int) (P : Int → Int) (vs : Nat → VS) (tp : Nat → TS) (A : Nat → Prop) : Array Value → State → Outcome → State → Prop := QI (dC, dI) vwCl (tyA dA) (fun (r : Int) (v_ : Unit) => r = pl) (fun (v_ : Unit) => wMr dA b tr hg wk at_ en cm rg st0 en0 lg tR ngR scR lnR uR lu ru su qu 0 rv si D CR FR LF RF SF QF P (tl0 dA b vs tp)) A
abbrev rmMr_tear : Room := { frames := 1, cells := 0, slots := 0, locals := 20 }
set_option maxRecDepth 100000 in
set_option maxHeartbeats 1000000 in
theorem cMr_tear (l : Launch) (dC : Nat → ClassId) (dI : Nat → Nat → Nat) (dA : Nat → ClassId) (dS : Nat → Nat) (b : Nat) (tr : Int) (hg : Int) (wk : Int) (at_ : Int) (en : Int) (cm : Int) (rg : Int) (st0 : Int) (en0 : Int) (lg : Int) (tR : Int) (ngR : Int) (scR : Int) (lnR : Int) (uR : Int) (lu : Int) (ru : Int) (su : Int) (qu : Int) (pl : Int) (rv : Value) (si : Int → Nat) (D : Int → Int) (CR : Int → Int) (FR : Int → Int) (LF : Int → Int) (RF : Int → Int) (SF : Int → Int) (QF : Int → Int) (P : Int → Int) (vs : Nat → VS) (tp : Nat → TS)  (sz : Nat) : Met l yMr_tear wsMr_tear rmMr_tear (PC (dC, dI) vwCl (tyA dA) (XC dS) [.ref b] (wMr dA b tr hg wk at_ en cm rg st0 en0 lg tR ngR scR lnR uR lu ru su qu pl rv si D CR FR LF RF SF QF P (tl0 dA b vs tp)) sz) (qMr_tear dC dI dA dS b tr hg wk at_ en cm rg st0 en0 lg tR ngR scR lnR uR lu ru su qu pl rv si D CR FR LF RF SF QF P vs tp (va_A (wMr dA b tr hg wk at_ en cm rg st0 en0 lg tR ngR scR lnR uR lu ru su qu pl rv si D CR FR LF RF SF QF P (tl0 dA b vs tp)) sz)) 0 0 (va_A (wMr dA b tr hg wk at_ en cm rg st0 en0 lg tR ngR scR lnR uR lu ru su qu pl rv si D CR FR LF RF SF QF P (tl0 dA b vs tp)) sz) := by
  refine met_of (cc := prog_1_method_11_code) (maxL := 2) (ret := (some .int)) (Qc := qMr_tear dC dI dA dS b tr hg wk at_ en cm rg st0 en0 lg tR ngR scR lnR uR lu ru su qu pl rv si D CR FR LF RF SF QF P vs tp) (XC_ok dS) (by decide) rfl (Nat.le_of_ble_eq_true rfl) ?_
  intro p e s m below meth c ls A hx hb hr hml hown hts hlocks hnm hK hP hD hA hX hS hl
  have hl : lv_has ls 2 [(0, .ref b)] := hl
  have hown : s.vm.findClass "MacroReckoner" = some m.cls := hown
  obtain ⟨H, hH⟩ : ∃ H : Heap, H = s.heap := ⟨_, rfl⟩
  obtain ⟨locs, hlo⟩ : ∃ L : List Loc, L = [] := ⟨_, rfl⟩
  have hP : va_P (dC, dI) vwCl (wMr dA b tr hg wk at_ en cm rg st0 en0 lg tR ngR scR lnR uR lu ru su qu pl rv si D CR FR LF RF SF QF P (tl0 dA b vs tp)) H := hH ▸ hP
  have hS : va_S A s.heap H locs := by rw [hH, hlo]; exact hS
  suffices hgo : W p l e rmMr_tear s m [.ref b].toArray below meth c H locs 0 0 (MQ below (qMr_tear dC dI dA dS b tr hg wk at_ en cm rg st0 en0 lg tR ngR scR lnR uR lu ru su qu pl rv si D CR FR LF RF SF QF P vs tp A) [.ref b].toArray s 0 0 A) (F0 m 0 ls []) by rw [hH, hlo] at hgo; exact hgo
  clear hH hlo
  refine lv_aload_n hx hb dMr_tear_0 rfl (lv_at hl 0 rfl) ?_
  refine va_get (D := (dC, dI)) (ci := 6) (v := .ref (b + 20)) (C := "MacroReckoner") (T := TMr) (N := 11) hx hb hts inMr hown hK hP 0 rfl rfl 10 (by decide) (hts _ wt1_183) (fun _ h9 => h9) rfl dMr_tear_1 ?_
  refine va_getN (D := (dC, dI)) (ci := 1) (v := .int (iI pl)) (C := "MacroReckoner$Paper") (T := TPa) (N := 2) hx hb hts inPa hown hK hP 20 rfl rfl 1 (by decide) (va_Nw.use rfl (hX.1 ("MacroReckoner", 111, "MacroReckoner$Paper", "length", "I", "MacroReckoner") (List.mem_of_getElem? (i := 24) rfl))) (fun _ h9 => h9) rfl dMr_tear_4 ?_
  refine lv_istore_n (lv' := [(1, .int (iI pl)), (0, .ref b)]) hx hb dMr_tear_7 rfl hl (by decide) rfl (fun ls hl => ?_)
  refine lv_aload_n hx hb dMr_tear_8 rfl (lv_at hl 1 rfl) ?_
  refine va_get (D := (dC, dI)) (ci := 6) (v := .ref (b + 20)) (C := "MacroReckoner") (T := TMr) (N := 11) hx hb hts inMr hown hK hP 0 rfl rfl 10 (by decide) (hts _ wt1_183) (fun _ h9 => h9) rfl dMr_tear_9 ?_
  refine cvT_v (we := wMr dA b tr hg wk at_ en cm rg st0 en0 lg tR ngR scR lnR uR lu ru su qu pl rv si D CR FR LF RF SF QF P []) (tl := tl0 dA b vs tp) (va_runV (C := "MacroReckoner$Paper") (As := []) (rest := []) ⟨hx, hb, hml, hown, hts⟩ (cPa_clear l dC dI dA (b + 20) (b + 21) P pl  H.size) (cwV 0 hts (gdV wt2_25 wt2_26 wt2_27 wt1_7 wt2_28) rfl rfl rfl ⟨rfl, by decide, by decide, by decide +kernel⟩ ⟨by decide, by decide⟩) (preV (q := ("MacroReckoner$Paper", TPa, 2)) hK hP hD hS hA XN_ok trivial [20, 21] rfl rfl 0 rfl rfl) rfl rfl hl.1 rfl (lv_room (Nat.le_of_ble_eq_true rfl)) dMr_tear_12 ⟨Nat.zero_le _, Nat.zero_le _⟩) hP hD hS hA [20, 21] [0, 1, 2, 3, 4, 5, 6, 7, 8, 9, 10, 11, 12, 13, 14, 15, 16, 17, 18, 19] rfl (fun v_ => wMr dA b tr hg wk at_ en cm rg st0 en0 lg tR ngR scR lnR uR lu ru su qu 0 rv si D CR FR LF RF SF QF P []) (fun _ => rfl) ((b, .inr (6, [.ref (b + 1), .ref (b + 3), .int (iI tr), .ref (b + 4), .ref (b + 5), .int (iI hg), .ref (b + 6), .int (iI wk), .ref (b + 7), .ref (b + 11), .ref (b + 20)])) :: (b + 1, .inr (2, [.ref (b + 2), .int (iI at_), .int (iI en)])) :: (b + 2, .inl (dA 1, 100, .inl (arI D))) :: (b + 3, .inl (dA 5, 8, .inr (.inr (.inr (.inr (arR (tfA b))))))) :: (b + 4, .inr (3, [.int (iI cm), .int (iI rg), rv, .int (iI st0), .int (iI en0), .int (iI lg)])) :: (b + 5, .inl (dA 4, 20, .inr (.inr (.inr (.inr (arR (sfA b si))))))) :: (b + 6, .inl (dA 4, 26, .inr (.inr (.inr (.inr (arR (rfA b))))))) :: (b + 7, .inr (4, [.int (iI tR), .ref (b + 8), .int (iI ngR), .int (iI scR), .ref (b + 10), .int (iI lnR)])) :: (b + 8, .inr (5, [.ref (b + 9), .int (iI uR)])) :: (b + 9, .inl (dA 0, 32, .inl (arI FR))) :: (b + 10, .inl (dA 1, 60, .inl (arI CR))) :: (b + 11, .inr (0, [.ref (b + 7), .ref (b + 12), .ref (b + 14), .ref (b + 16), .ref (b + 18)])) :: (b + 12, .inr (5, [.ref (b + 13), .int (iI lu)])) :: (b + 13, .inl (dA 0, 32, .inl (arI LF))) :: (b + 14, .inr (5, [.ref (b + 15), .int (iI ru)])) :: (b + 15, .inl (dA 0, 32, .inl (arI RF))) :: (b + 16, .inr (5, [.ref (b + 17), .int (iI su)])) :: (b + 17, .inl (dA 0, 32, .inl (arI SF))) :: (b + 18, .inr (5, [.ref (b + 19), .int (iI qu)])) :: (b + 19, .inl (dA 0, 32, .inl (arI QF))) :: []) rfl (fun _ => rfl) [b, b + 1, b + 2, b + 3, b + 4, b + 5, b + 6, b + 7, b + 8, b + 9, b + 10, b + 11, b + 12, b + 13, b + 14, b + 15, b + 16, b + 17, b + 18, b + 19, b + 20, b + 21] rfl (fun _ => rfl) (fun _ => rfl) (fun u_ H locs hq12 hP hD hS => ?_)
  have hP : va_P (dC, dI) vwCl (wMr dA b tr hg wk at_ en cm rg st0 en0 lg tR ngR scR lnR uR lu ru su qu 0 rv si D CR FR LF RF SF QF P (tl0 dA b vs tp)) H := hP
  have hD : va_D A (wMr dA b tr hg wk at_ en cm rg st0 en0 lg tR ngR scR lnR uR lu ru su qu 0 rv si D CR FR LF RF SF QF P (tl0 dA b vs tp)) := hD
  have hq12 : True := hq12
  refine lv_iload_n hx hb dMr_tear_15 rfl (lv_at hl 0 rfl) ?_
  exact rt_i hx hb hr hlocks hK hS dMr_tear_16 () hP hD (show pl = pl from by rfl)
