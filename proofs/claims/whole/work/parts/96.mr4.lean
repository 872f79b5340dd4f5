theorem dMr_forgetSpentTexts_0 : decode prog_1_method_12_code 0 = .ok (.aload_n 0, 1) := by decide +kernel
theorem dMr_forgetSpentTexts_1 : decode prog_1_method_12_code 1 = .ok (.getfield 22, 3) := by decide +kernel
theorem dMr_forgetSpentTexts_4 : decode prog_1_method_12_code 4 = .ok (.ifCond .le 33, 3) := by decide +kernel
theorem dMr_forgetSpentTexts_7 : decode prog_1_method_12_code 7 = .ok (.aload_n 0, 1) := by decide +kernel
theorem dMr_forgetSpentTexts_8 : decode prog_1_method_12_code 8 = .ok (.getfield 18, 3) := by decide +kernel
theorem dMr_forgetSpentTexts_11 : decode prog_1_method_12_code 11 = .ok (.aload_n 0, 1) := by decide +kernel
theorem dMr_forgetSpentTexts_12 : decode prog_1_method_12_code 12 = .ok (.getfield 22, 3) := by decide +kernel
theorem dMr_forgetSpentTexts_15 : decode prog_1_method_12_code 15 = .ok (.iconst 1, 1) := by decide +kernel
theorem dMr_forgetSpentTexts_16 : decode prog_1_method_12_code 16 = .ok (.isub, 1) := by decide +kernel
theorem dMr_forgetSpentTexts_17 : decode prog_1_method_12_code 17 = .ok (.aaload, 1) := by decide +kernel
theorem dMr_forgetSpentTexts_18 : decode prog_1_method_12_code 18 = .ok (.invokevirtual 119, 3) := by decide +kernel
theorem dMr_forgetSpentTexts_21 : decode prog_1_method_12_code 21 = .ok (.ifCond .eq 16, 3) := by decide +kernel
theorem dMr_forgetSpentTexts_24 : decode prog_1_method_12_code 24 = .ok (.aload_n 0, 1) := by decide +kernel
theorem dMr_forgetSpentTexts_25 : decode prog_1_method_12_code 25 = .ok (.dup, 1) := by decide +kernel
theorem dMr_forgetSpentTexts_26 : decode prog_1_method_12_code 26 = .ok (.getfield 22, 3) := by decide +kernel
theorem dMr_forgetSpentTexts_29 : decode prog_1_method_12_code 29 = .ok (.iconst 1, 1) := by decide +kernel
theorem dMr_forgetSpentTexts_30 : decode prog_1_method_12_code 30 = .ok (.isub, 1) := by decide +kernel
theorem dMr_forgetSpentTexts_31 : decode prog_1_method_12_code 31 = .ok (.putfield 22, 3) := by decide +kernel
theorem dMr_forgetSpentTexts_34 : decode prog_1_method_12_code 34 = .ok (.goto (-34), 3) := by decide +kernel
theorem dMr_forgetSpentTexts_37 : decode prog_1_method_12_code 37 = .ok (.return_, 1) := by decide +kernel
abbrev qMr_forgetSpentTexts (dC : Nat → ClassId) (dI : Nat → Nat → Nat) (dA : Nat → ClassId) (dS : Nat → Nat) (b : Nat) (tr : Int) (hg : Int) (wk : Int) (at_ : Int) (en : Int) (cm : Int) (rg : Int) (st0 : Int) (en0 : Int) (lg : Int) (tR : Int) (ngR : Int) (scR : Int) (lnR : Int) (uR : Int) (lu : Int) (ru : Int) (su : Int) (qu : Int) (pl : Int) (rv : Value) (si : Int → Nat) (D : Int → Int) (CR : Int → Int) (FR : Int → Int) (LF : Int → Int) (RF : Int → Int) (SF : Int → Int) (QF : Int → Int) (P : Int → Int) (vs : Nat → VS) (tp : Nat → TS) (st : AS) (A : Nat → Prop) : Array Value → State → Outcome → State → Prop := QV (dC, dI) vwCl (tyA dA) (fun (v_ : Int) => v_ = st.tn) (fun (v_ : Int) => wMr dA b v_ hg wk at_ en cm rg st0 en0 lg tR ngR scR lnR uR lu ru su qu pl rv si D CR FR LF RF SF QF P (tl0 dA b vs tp)) A
abbrev rmMr_forgetSpentTexts : Room := { frames := 2, cells := 0, slots := 0, locals := 43 }
set_option maxRecDepth 100000 in
set_option maxHeartbeats 1000000 in
theorem cMr_forgetSpentTexts (l : Launch) (dC : Nat → ClassId) (dI : Nat → Nat → Nat) (dA : Nat → ClassId) (dS : Nat → Nat) (b : Nat) (tr : Int) (hg : Int) (wk : Int) (at_ : Int) (en : Int) (cm : Int) (rg : Int) (st0 : Int) (en0 : Int) (lg : Int) (tR : Int) (ngR : Int) (scR : Int) (lnR : Int) (uR : Int) (lu : Int) (ru : Int) (su : Int) (qu : Int) (pl : Int) (rv : Value) (si : Int → Nat) (D : Int → Int) (CR : Int → Int) (FR : Int → Int) (LF : Int → Int) (RF : Int → Int) (SF : Int → Int) (QF : Int → Int) (P : Int → Int) (vs : Nat → VS) (tp : Nat → TS) (st : AS) (hCX : CX tp tr st) (sz : Nat) : Met l yMr_forgetSpentTexts wsMr_forgetSpentTexts rmMr_forgetSpentTexts (PC (dC, dI) vwCl (tyA dA) (XC dS) [.ref b] (wMr dA b tr hg wk at_ en cm rg st0 en0 lg tR ngR scR lnR uR lu ru su qu pl rv si D CR FR LF RF SF QF P (tl0 dA b vs tp)) sz) (qMr_forgetSpentTexts dC dI dA dS b tr hg wk at_ en cm rg st0 en0 lg tR ngR scR lnR uR lu ru su qu pl rv si D CR FR LF RF SF QF P vs tp st (va_A (wMr dA b tr hg wk at_ en cm rg st0 en0 lg tR ngR scR lnR uR lu ru su qu pl rv si D CR FR LF RF SF QF P (tl0 dA b vs tp)) sz)) 0 0 (va_A (wMr dA b tr hg wk at_ en cm rg st0 en0 lg tR ngR scR lnR uR lu ru su qu pl rv si D CR FR LF RF SF QF P (tl0 dA b vs tp)) sz) := by
  refine met_of (cc := prog_1_method_12_code) (maxL := 1) (ret := none) (Qc := qMr_forgetSpentTexts dC dI dA dS b tr hg wk at_ en cm rg st0 en0 lg tR ngR scR lnR uR lu ru su qu pl rv si D CR FR LF RF SF QF P vs tp st) (XC_ok dS) (by decide) rfl (Nat.le_of_ble_eq_true rfl) ?_
  intro p e s m below meth c ls A hx hb hr hml hown hts hlocks hnm hK hP hD hA hX hS hl
  have hl : lv_has ls 1 [(0, .ref b)] := hl
  have hown : s.vm.findClass "MacroReckoner" = some m.cls := hown
  obtain ⟨H, hH⟩ : ∃ H : Heap, H = s.heap := ⟨_, rfl⟩
  obtain ⟨locs, hlo⟩ : ∃ L : List Loc, L = [] := ⟨_, rfl⟩
  have hP : va_P (dC, dI) vwCl (wMr dA b tr hg wk at_ en cm rg st0 en0 lg tR ngR scR lnR uR lu ru su qu pl rv si D CR FR LF RF SF QF P (tl0 dA b vs tp)) H := hH ▸ hP
  have hS : va_S A s.heap H locs := by rw [hH, hlo]; exact hS
  suffices hgo : W p l e rmMr_forgetSpentTexts s m [.ref b].toArray below meth c H locs 0 0 (MQ below (qMr_forgetSpentTexts dC dI dA dS b tr hg wk at_ en cm rg st0 en0 lg tR ngR scR lnR uR lu ru su qu pl rv si D CR FR LF RF SF QF P vs tp st A) [.ref b].toArray s 0 0 A) (F0 m 0 ls []) by rw [hH, hlo] at hgo; exact hgo
  clear hH hlo
  have L0 : ∀ (n : Nat) (t9 : Int) (H : Heap) (locs : List Loc) (ls : Array Slot), (st.tn ≤ t9 ∧ t9 ≤ tr) → (t9).toNat < n → va_P (dC, dI) vwCl (wMr dA b t9 hg wk at_ en cm rg st0 en0 lg tR ngR scR lnR uR lu ru su qu pl rv si D CR FR LF RF SF QF P (tl0 dA b vs tp)) H → va_D A (wMr dA b t9 hg wk at_ en cm rg st0 en0 lg tR ngR scR lnR uR lu ru su qu pl rv si D CR FR LF RF SF QF P (tl0 dA b vs tp)) → va_S A s.heap H locs → lv_has ls 1 [(0, .ref b)] → W p l e rmMr_forgetSpentTexts s m [.ref b].toArray below meth c H locs 0 0 (MQ below (qMr_forgetSpentTexts dC dI dA dS b tr hg wk at_ en cm rg st0 en0 lg tR ngR scR lnR uR lu ru su qu pl rv si D CR FR LF RF SF QF P vs tp st A) [.ref b].toArray s 0 0 A) (F0 m 0 ls []) := by
    intro n
    induction n with
    | zero => intro t9 H locs ls ht9 hn; omega
    | succ n ih =>
      intro t9 H locs ls ht9 hn hP hD hS hl
      have hx1 := hCX.1
      have ih0 := ih
      refine lv_aload_n hx hb dMr_forgetSpentTexts_0 rfl (lv_at hl 0 rfl) ?_
      refine va_get (D := (dC, dI)) (ci := 6) (v := .int (iI t9)) (C := "MacroReckoner") (T := TMr) (N := 11) hx hb hts inMr hown hK hP 0 rfl rfl 2 (by decide) (hts _ wt1_175) (fun _ h9 => h9) rfl dMr_forgetSpentTexts_1 ?_
      refine iv_if_le (tgt := 37) hx hb dMr_forgetSpentTexts_4 (by decide) ⟨by omega, by omega⟩ (fun hc4 => ?_) (fun hc4 => ?_)
      · exact rt_v hx hb hr hlocks hK hS dMr_forgetSpentTexts_37 (t9) hP hD (show t9 = st.tn from by omega)
      · refine lv_aload_n hx hb dMr_forgetSpentTexts_7 rfl (lv_at hl 0 rfl) ?_
        refine va_get (D := (dC, dI)) (ci := 6) (v := .ref (b + 3)) (C := "MacroReckoner") (T := TMr) (N := 11) hx hb hts inMr hown hK hP 0 rfl rfl 1 (by decide) (hts _ wt1_174) (fun _ h9 => h9) rfl dMr_forgetSpentTexts_8 ?_
        refine lv_aload_n hx hb dMr_forgetSpentTexts_11 rfl (lv_at hl 0 rfl) ?_
        refine va_get (D := (dC, dI)) (ci := 6) (v := .int (iI t9)) (C := "MacroReckoner") (T := TMr) (N := 11) hx hb hts inMr hown hK hP 0 rfl rfl 2 (by decide) (hts _ wt1_175) (fun _ h9 => h9) rfl dMr_forgetSpentTexts_12 ?_
        refine lv_iconst (v := iI 1) hx hb dMr_forgetSpentTexts_15 rfl ?_
        refine iv_isub hx hb dMr_forgetSpentTexts_16 ?_
        refine iv_aald hx hb hK hP 3 5 rfl rfl (by decide) dMr_forgetSpentTexts_17 (by omega) (by omega) ?_
        refine W.eq (g2 := F0 m 18 ls [.ref (b + 22 + 2 * (t9 - 1).toNat)]) rfl ?_
        obtain ⟨a1, e_a1⟩ : ∃ z : Nat, z = b + 22 + 2 * (t9 - 1).toNat := ⟨_, rfl⟩
        rw [← e_a1]
        obtain ⟨⟨Dv, atv, env⟩, e_tv⟩ : ∃ z : TS, z = tp ((t9 - 1).toNat) := ⟨_, rfl⟩
        have hP := va_P_pm (wMr_p (fT1 (dA := dA) (b := b) (vs := vs) (tp := tp) (k := (t9 - 1).toNat) (by omega))) hP
        have hD := va_D_pm (wMr_p (fT1 (dA := dA) (b := b) (vs := vs) (tp := tp) (k := (t9 - 1).toNat) (by omega))) hD
        rw [← e_tv, ← e_a1] at hP hD
        have hP : va_P (dC, dI) vwCl (wMr dA b t9 hg wk at_ en cm rg st0 en0 lg tR ngR scR lnR uR lu ru su qu pl rv si D CR FR LF RF SF QF P (wTx dA a1 Dv atv env (tT1 dA b vs tp ((t9 - 1).toNat)))) H := hP
        have hD : va_D A (wMr dA b t9 hg wk at_ en cm rg st0 en0 lg tR ngR scR lnR uR lu ru su qu pl rv si D CR FR LF RF SF QF P (wTx dA a1 Dv atv env (tT1 dA b vs tp ((t9 - 1).toNat)))) := hD
        have hTP : TP 60 Dv atv env := by have h := CX_tp hCX (i := t9 - 1) (by omega) (by omega); rw [← e_tv] at h; exact h
        have hNB : blnk Dv atv env ↔ st.tn ≤ t9 - 1 := by have h := CX_nb hCX (i := t9 - 1) (by omega) (by omega); rw [← e_tv] at h; exact h
        refine cvT_i (we := wMr dA b t9 hg wk at_ en cm rg st0 en0 lg tR ngR scR lnR uR lu ru su qu pl rv si D CR FR LF RF SF QF P (wTx dA a1 Dv atv env [])) (tl := tT1 dA b vs tp ((t9 - 1).toNat)) (va_runV (C := "MacroReckoner$Tape") (As := []) (rest := []) ⟨hx, hb, hml, hown, hts⟩ (cTa_isBlank l dC dI dA a1 (a1 + 1) 60 Dv atv env (by exact hTP) H.size) (cwV 0 hts (gdV wt2_6 wt2_7 wt2_8 wt1_2 wt2_9) rfl rfl rfl ⟨rfl, by decide, by decide, by decide +kernel⟩ ⟨by decide, by decide⟩) (preV (q := ("MacroReckoner$Tape", TTa, 3)) hK hP hD hS hA XN_ok trivial [22, 23] rfl rfl 0 rfl rfl) rfl rfl hl.1 rfl (lv_room (Nat.le_of_ble_eq_true rfl)) dMr_forgetSpentTexts_18 ⟨Nat.zero_le _, Nat.zero_le _⟩) hP hD hS hA [22, 23] [0, 1, 2, 3, 4, 5, 6, 7, 8, 9, 10, 11, 12, 13, 14, 15, 16, 17, 18, 19, 20, 21] rfl (fun v_ => wMr dA b t9 hg wk at_ en cm rg st0 en0 lg tR ngR scR lnR uR lu ru su qu pl rv si D CR FR LF RF SF QF P (wTx dA a1 Dv atv env [])) (fun _ => rfl) (wMr dA b t9 hg wk at_ en cm rg st0 en0 lg tR ngR scR lnR uR lu ru su qu pl rv si D CR FR LF RF SF QF P []) rfl (fun _ => rfl) [b, b + 1, b + 2, b + 3, b + 4, b + 5, b + 6, b + 7, b + 8, b + 9, b + 10, b + 11, b + 12, b + 13, b + 14, b + 15, b + 16, b + 17, b + 18, b + 19, b + 20, b + 21, a1, a1 + 1] rfl (fun _ => rfl) (fun _ => rfl) (fun r18 u_ H locs hq18 hP hD hS => ?_)
        have hP : va_P (dC, dI) vwCl (wMr dA b t9 hg wk at_ en cm rg st0 en0 lg tR ngR scR lnR uR lu ru su qu pl rv si D CR FR LF RF SF QF P (wTx dA a1 Dv atv env (tT1 dA b vs tp ((t9 - 1).toNat)))) H := hP
        have hD : va_D A (wMr dA b t9 hg wk at_ en cm rg st0 en0 lg tR ngR scR lnR uR lu ru su qu pl rv si D CR FR LF RF SF QF P (wTx dA a1 Dv atv env (tT1 dA b vs tp ((t9 - 1).toNat)))) := hD
        have hq18 : (r18 = 1 ∧ ∀ j, atv ≤ j → j < env → Dv j = 32) ∨ (r18 = 0 ∧ ∃ j, atv ≤ j ∧ j < env ∧ Dv j ≠ 32) := hq18
        have hbl : (r18 = 1 ∧ st.tn ≤ t9 - 1) ∨ (r18 = 0 ∧ ¬ st.tn ≤ t9 - 1) := by rcases hq18 with ⟨z1, z2⟩ | ⟨z1, j, z2, z3, z4⟩; exact Or.inl ⟨z1, hNB.mp z2⟩; exact Or.inr ⟨z1, fun w => z4 (hNB.mpr w j z2 z3)⟩
        clear hq18
        clear hq18
        rw [e_a1] at hP hD
        have hP := va_P_pm (wMr_p (uT1 (dA := dA) (b := b) (vs := vs) (tp := tp) (k := (t9 - 1).toNat) (v := (Dv, atv, env)) (by omega))) hP
        have hD := va_D_pm (wMr_p (uT1 (dA := dA) (b := b) (vs := vs) (tp := tp) (k := (t9 - 1).toNat) (v := (Dv, atv, env)) (by omega))) hD
        rw [upF_id e_tv] at hP hD
        have hP : va_P (dC, dI) vwCl (wMr dA b t9 hg wk at_ en cm rg st0 en0 lg tR ngR scR lnR uR lu ru su qu pl rv si D CR FR LF RF SF QF P (tl0 dA b vs tp)) H := hP
        have hD : va_D A (wMr dA b t9 hg wk at_ en cm rg st0 en0 lg tR ngR scR lnR uR lu ru su qu pl rv si D CR FR LF RF SF QF P (tl0 dA b vs tp)) := hD
        refine iv_if_eq (tgt := 37) hx hb dMr_forgetSpentTexts_21 (by decide) ⟨by omega, by omega⟩ (fun hc21 => ?_) (fun hc21 => ?_)
        · exact rt_v hx hb hr hlocks hK hS dMr_forgetSpentTexts_37 (t9) hP hD (show t9 = st.tn from by omega)
        · refine lv_aload_n hx hb dMr_forgetSpentTexts_24 rfl (lv_at hl 0 rfl) ?_
          refine lv_dup hx hb dMr_forgetSpentTexts_25 rfl ?_
          refine va_get (D := (dC, dI)) (ci := 6) (v := .int (iI t9)) (C := "MacroReckoner") (T := TMr) (N := 11) hx hb hts inMr hown hK hP 0 rfl rfl 2 (by decide) (hts _ wt1_175) (fun _ h9 => h9) rfl dMr_forgetSpentTexts_26 ?_
          refine lv_iconst (v := iI 1) hx hb dMr_forgetSpentTexts_29 rfl ?_
          refine iv_isub hx hb dMr_forgetSpentTexts_30 ?_
          refine va_put (D := (dC, dI)) (ci := 6) (v := .int (iI (t9 - 1))) (ty := .int) (C := "MacroReckoner") (T := TMr) (N := 11) hx hb hts inMr tyMr tyMr_ok nmMr hown hK hP hD hS 0 rfl rfl 2 (by decide) (hts _ wt1_175) (fun _ h9 => h9) rfl (by decide +kernel) rfl rfl (Nat.le_of_ble_eq_true rfl) dMr_forgetSpentTexts_31 (fun H locs hP hD hS => ?_)
          have hP : va_P (dC, dI) vwCl (wMr dA b (t9 - 1) hg wk at_ en cm rg st0 en0 lg tR ngR scR lnR uR lu ru su qu pl rv si D CR FR LF RF SF QF P (tl0 dA b vs tp)) H := hP
          have hD : va_D A (wMr dA b (t9 - 1) hg wk at_ en cm rg st0 en0 lg tR ngR scR lnR uR lu ru su qu pl rv si D CR FR LF RF SF QF P (tl0 dA b vs tp)) := hD
          refine lv_goto (tgt := 0) hx hb dMr_forgetSpentTexts_34 (by decide) ?_
          exact ih0 (t9 - 1) H locs ls (by omega) (by omega) hP hD hS (lv_sub hl [0] rfl)
  exact L0 _ tr H locs ls (by exact ⟨hCX.1.2.1, Int.le_refl _⟩) (Nat.lt_succ_self _) hP hD hS (lv_sub hl [0] rfl)

theorem dMr_source_0 : decode prog_1_method_13_code 0 = .ok (.aload_n 0, 1) := by decide +kernel
theorem dMr_source_1 : decode prog_1_method_13_code 1 = .ok (.getfield 22, 3) := by decide +kernel
theorem dMr_source_4 : decode prog_1_method_13_code 4 = .ok (.ifCond .le 17, 3) := by decide +kernel
theorem dMr_source_7 : decode prog_1_method_13_code 7 = .ok (.aload_n 0, 1) := by decide +kernel
theorem dMr_source_8 : decode prog_1_method_13_code 8 = .ok (.getfield 18, 3) := by decide +kernel
theorem dMr_source_11 : decode prog_1_method_13_code 11 = .ok (.aload_n 0, 1) := by decide +kernel
theorem dMr_source_12 : decode prog_1_method_13_code 12 = .ok (.getfield 22, 3) := by decide +kernel
theorem dMr_source_15 : decode prog_1_method_13_code 15 = .ok (.iconst 1, 1) := by decide +kernel
theorem dMr_source_16 : decode prog_1_method_13_code 16 = .ok (.isub, 1) := by decide +kernel
theorem dMr_source_17 : decode prog_1_method_13_code 17 = .ok (.aaload, 1) := by decide +kernel
theorem dMr_source_18 : decode prog_1_method_13_code 18 = .ok (.goto 7, 3) := by decide +kernel
theorem dMr_source_21 : decode prog_1_method_13_code 21 = .ok (.aload_n 0, 1) := by decide +kernel
theorem dMr_source_22 : decode prog_1_method_13_code 22 = .ok (.getfield 14, 3) := by decide +kernel
theorem dMr_source_25 : decode prog_1_method_13_code 25 = .ok (.areturn, 1) := by decide +kernel
abbrev qMr_source (dC : Nat → ClassId) (dI : Nat → Nat → Nat) (dA : Nat → ClassId) (dS : Nat → Nat) (b : Nat) (tr : Int) (hg : Int) (wk : Int) (at_ : Int) (en : Int) (cm : Int) (rg : Int) (st0 : Int) (en0 : Int) (lg : Int) (tR : Int) (ngR : Int) (scR : Int) (lnR : Int) (uR : Int) (lu : Int) (ru : Int) (su : Int) (qu : Int) (pl : Int) (rv : Value) (si : Int → Nat) (D : Int → Int) (CR : Int → Int) (FR : Int → Int) (LF : Int → Int) (RF : Int → Int) (SF : Int → Int) (QF : Int → Int) (P : Int → Int) (vs : Nat → VS) (tp : Nat → TS) (st : AS) (A : Nat → Prop) : Array Value → State → Outcome → State → Prop := QR (dC, dI) vwCl (tyA dA) (fun (r : Nat) (v_ : Unit) => (0 < tr ∧ r = b + 22 + 2 * (tr - 1).toNat) ∨ (tr ≤ 0 ∧ r = b + 1)) (fun (v_ : Unit) => wMr dA b tr hg wk at_ en cm rg st0 en0 lg tR ngR scR lnR uR lu ru su qu pl rv si D CR FR LF RF SF QF P (tl0 dA b vs tp)) A
abbrev rmMr_source : Room := { frames := 0, cells := 0, slots := 0, locals := 0 }
set_option maxRecDepth 100000 in
set_option maxHeartbeats 1000000 in
theorem cMr_source (l : Launch) (dC : Nat → ClassId) (dI : Nat → Nat → Nat) (dA : Nat → ClassId) (dS : Nat → Nat) (b : Nat) (tr : Int) (hg : Int) (wk : Int) (at_ : Int) (en : Int) (cm : Int) (rg : Int) (st0 : Int) (en0 : Int) (lg : Int) (tR : Int) (ngR : Int) (scR : Int) (lnR : Int) (uR : Int) (lu : Int) (ru : Int) (su : Int) (qu : Int) (pl : Int) (rv : Value) (si : Int → Nat) (D : Int → Int) (CR : Int → Int) (FR : Int → Int) (LF : Int → Int) (RF : Int → Int) (SF : Int → Int) (QF : Int → Int) (P : Int → Int) (vs : Nat → VS) (tp : Nat → TS) (st : AS) (htr : 0 ≤ tr ∧ tr ≤ 8) (sz : Nat) : Met l yMr_source wsMr_source rmMr_source (PC (dC, dI) vwCl (tyA dA) (XC dS) [.ref b] (wMr dA b tr hg wk at_ en cm rg st0 en0 lg tR ngR scR lnR uR lu ru su qu pl rv si D CR FR LF RF SF QF P (tl0 dA b vs tp)) sz) (qMr_source dC dI dA dS b tr hg wk at_ en cm rg st0 en0 lg tR ngR scR lnR uR lu ru su qu pl rv si D CR FR LF RF SF QF P vs tp st (va_A (wMr dA b tr hg wk at_ en cm rg st0 en0 lg tR ngR scR lnR uR lu ru su qu pl rv si D CR FR LF RF SF QF P (tl0 dA b vs tp)) sz)) 0 0 (va_A (wMr dA b tr hg wk at_ en cm rg st0 en0 lg tR ngR scR lnR uR lu ru su qu pl rv si D CR FR LF RF SF QF P (tl0 dA b vs tp)) sz) := by
  refine met_of (cc := prog_1_method_13_code) (maxL := 1) (ret := (some (.object "MacroReckoner$Tape"))) (Qc := qMr_source dC dI dA dS b tr hg wk at_ en cm rg st0 en0 lg tR ngR scR lnR uR lu ru su qu pl rv si D CR FR LF RF SF QF P vs tp st) (XC_ok dS) (by decide) rfl (Nat.le_of_ble_eq_true rfl) ?_
  intro p e s m below meth c ls A hx hb hr hml hown hts hlocks hnm hK hP hD hA hX hS hl
  have hl : lv_has ls 1 [(0, .ref b)] := hl
  have hown : s.vm.findClass "MacroReckoner" = some m.cls := hown
  obtain ⟨H, hH⟩ : ∃ H : Heap, H = s.heap := ⟨_, rfl⟩
  obtain ⟨locs, hlo⟩ : ∃ L : List Loc, L = [] := ⟨_, rfl⟩
  have hP : va_P (dC, dI) vwCl (wMr dA b tr hg wk at_ en cm rg st0 en0 lg tR ngR scR lnR uR lu ru su qu pl rv si D CR FR LF RF SF QF P (tl0 dA b vs tp)) H := hH ▸ hP
  have hS : va_S A s.heap H locs := by rw [hH, hlo]; exact hS
  suffices hgo : W p l e rmMr_source s m [.ref b].toArray below meth c H locs 0 0 (MQ below (qMr_source dC dI dA dS b tr hg wk at_ en cm rg st0 en0 lg tR ngR scR lnR uR lu ru su qu pl rv si D CR FR LF RF SF QF P vs tp st A) [.ref b].toArray s 0 0 A) (F0 m 0 ls []) by rw [hH, hlo] at hgo; exact hgo
  clear hH hlo
  refine lv_aload_n hx hb dMr_source_0 rfl (lv_at hl 0 rfl) ?_
  refine va_get (D := (dC, dI)) (ci := 6) (v := .int (iI tr)) (C := "MacroReckoner") (T := TMr) (N := 11) hx hb hts inMr hown hK hP 0 rfl rfl 2 (by decide) (hts _ wt1_175) (fun _ h9 => h9) rfl dMr_source_1 ?_
  refine iv_if_le (tgt := 21) hx hb dMr_source_4 (by decide) ⟨by omega, by omega⟩ (fun hc4 => ?_) (fun hc4 => ?_)
  · refine lv_aload_n hx hb dMr_source_21 rfl (lv_at hl 0 rfl) ?_
    refine va_get (D := (dC, dI)) (ci := 6) (v := .ref (b + 1)) (C := "MacroReckoner") (T := TMr) (N := 11) hx hb hts inMr hown hK hP 0 rfl rfl 0 (by decide) (hts _ wt1_173) (fun _ h9 => h9) rfl dMr_source_22 ?_
    exact rt_r hx hb hr (Or.inl ⟨_, rfl⟩) hlocks hK hS dMr_source_25 () hP hD (show (0 < tr ∧ (b + 1) = b + 22 + 2 * (tr - 1).toNat) ∨ (tr ≤ 0 ∧ (b + 1) = b + 1) from by first | exact Or.inl ⟨by omega, rfl⟩ | exact Or.inr ⟨by omega, rfl⟩)
  · refine lv_aload_n hx hb dMr_source_7 rfl (lv_at hl 0 rfl) ?_
    refine va_get (D := (dC, dI)) (ci := 6) (v := .ref (b + 3)) (C := "MacroReckoner") (T := TMr) (N := 11) hx hb hts inMr hown hK hP 0 rfl rfl 1 (by decide) (hts _ wt1_174) (fun _ h9 => h9) rfl dMr_source_8 ?_
    refine lv_aload_n hx hb dMr_source_11 rfl (lv_at hl 0 rfl) ?_
    refine va_get (D := (dC, dI)) (ci := 6) (v := .int (iI tr)) (C := "MacroReckoner") (T := TMr) (N := 11) hx hb hts inMr hown hK hP 0 rfl rfl 2 (by decide) (hts _ wt1_175) (fun _ h9 => h9) rfl dMr_source_12 ?_
    refine lv_iconst (v := iI 1) hx hb dMr_source_15 rfl ?_
    refine iv_isub hx hb dMr_source_16 ?_
    refine iv_aald hx hb hK hP 3 5 rfl rfl (by decide) dMr_source_17 (by omega) (by omega) ?_
    refine W.eq (g2 := F0 m 18 ls [.ref (b + 22 + 2 * (tr - 1).toNat)]) rfl ?_
    refine lv_goto (tgt := 25) hx hb dMr_source_18 (by decide) ?_
    exact rt_r hx hb hr (Or.inl ⟨_, rfl⟩) hlocks hK hS dMr_source_25 () hP hD (show (0 < tr ∧ (b + 22 + 2 * (tr - 1).toNat) = b + 22 + 2 * (tr - 1).toNat) ∨ (tr ≤ 0 ∧ (b + 22 + 2 * (tr - 1).toNat) = b + 1) from by first | exact Or.inl ⟨by omega, rfl⟩ | exact Or.inr ⟨by omega, rfl⟩)

theorem dMr_findToken_0 : decode prog_1_method_14_code 0 = .ok (.aload_n 0, 1) := by decide +kernel
theorem dMr_findToken_1 : decode prog_1_method_14_code 1 = .ok (.invokevirtual 104, 3) := by decide +kernel
theorem dMr_findToken_4 : decode prog_1_method_14_code 4 = .ok (.aload_n 0, 1) := by decide +kernel
theorem dMr_findToken_5 : decode prog_1_method_14_code 5 = .ok (.getfield 29, 3) := by decide +kernel
theorem dMr_findToken_8 : decode prog_1_method_14_code 8 = .ok (.aload_n 0, 1) := by decide +kernel
theorem dMr_findToken_9 : decode prog_1_method_14_code 9 = .ok (.invokevirtual 122, 3) := by decide +kernel
theorem dMr_findToken_12 : decode prog_1_method_14_code 12 = .ok (.aload_n 0, 1) := by decide +kernel
theorem dMr_findToken_13 : decode prog_1_method_14_code 13 = .ok (.getfield 22, 3) := by decide +kernel
theorem dMr_findToken_16 : decode prog_1_method_14_code 16 = .ok (.ifCond .le 7, 3) := by decide +kernel
theorem dMr_findToken_19 : decode prog_1_method_14_code 19 = .ok (.iconst 1, 1) := by decide +kernel
theorem dMr_findToken_20 : decode prog_1_method_14_code 20 = .ok (.goto 4, 3) := by decide +kernel
theorem dMr_findToken_23 : decode prog_1_method_14_code 23 = .ok (.iconst 0, 1) := by decide +kernel
theorem dMr_findToken_24 : decode prog_1_method_14_code 24 = .ok (.invokevirtual 126, 3) := by decide +kernel
theorem dMr_findToken_27 : decode prog_1_method_14_code 27 = .ok (.ireturn, 1) := by decide +kernel
abbrev qMr_findToken (dC : Nat → ClassId) (dI : Nat → Nat → Nat) (dA : Nat → ClassId) (dS : Nat → Nat) (b : Nat) (tr : Int) (hg : Int) (wk : Int) (at_ : Int) (en : Int) (cm : Int) (rg : Int) (st0 : Int) (en0 : Int) (lg : Int) (tR : Int) (ngR : Int) (scR : Int) (lnR : Int) (uR : Int) (lu : Int) (ru : Int) (su : Int) (qu : Int) (pl : Int) (rv : Value) (si : Int → Nat) (D : Int → Int) (CR : Int → Int) (FR : Int → Int) (LF : Int → Int) (RF : Int → Int) (SF : Int → Int) (QF : Int → Int) (P : Int → Int) (vs : Nat → VS) (tp : Nat → TS) (st : AS) (A : Nat → Prop) : Array Value → State → Outcome → State → Prop := QI (dC, dI) vwCl (tyA dA) (fun (r : Int) (v_ : Int × Int × Int × Value × Int × Int × Int × Int × (Nat → TS)) => v_.1 = st.tn ∧ CX v_.2.2.2.2.2.2.2.2 v_.1 st ∧ CI D v_.2.2.2.2.2.2.2.1 en st ∧ tkI st r v_.2.1 v_.2.2.2.2.2.2.1 v_.2.2.1 ∧ tkS b v_.2.2.2.2.2.2.2.2 D v_.2.2.2.1 v_.2.2.2.2.1 v_.2.2.2.2.2.1 v_.1 (srD st) (srE st) ∧ ((0 < v_.1 ∧ v_.2.2.2.2.2.2.2.2 (v_.1 - 1).toNat = ((v_.2.2.2.2.2.2.2.2 (v_.1 - 1).toNat).1, v_.2.2.2.2.1, v_.2.2.2.2.2.1)) ∨ (v_.1 ≤ 0 ∧ v_.2.2.2.2.2.2.2.1 = v_.2.2.2.2.1 ∧ en = v_.2.2.2.2.2.1)) ∧ 0 ≤ v_.2.1 ∧ v_.2.1 < 65536) (fun (v_ : Int × Int × Int × Value × Int × Int × Int × Int × (Nat → TS)) => wMr dA b v_.1 hg wk v_.2.2.2.2.2.2.2.1 en v_.2.1 v_.2.2.1 v_.2.2.2.2.1 v_.2.2.2.2.2.1 v_.2.2.2.2.2.2.1 tR ngR scR lnR uR lu ru su qu pl v_.2.2.2.1 si D CR FR LF RF SF QF P (tl0 dA b vs v_.2.2.2.2.2.2.2.2)) A
abbrev rmMr_findToken : Room := { frames := 4, cells := 0, slots := 0, locals := 86 }
set_option maxRecDepth 100000 in
set_option maxHeartbeats 1000000 in
theorem cMr_findToken (l : Launch) (dC : Nat → ClassId) (dI : Nat → Nat → Nat) (dA : Nat → ClassId) (dS : Nat → Nat) (b : Nat) (tr : Int) (hg : Int) (wk : Int) (at_ : Int) (en : Int) (cm : Int) (rg : Int) (st0 : Int) (en0 : Int) (lg : Int) (tR : Int) (ngR : Int) (scR : Int) (lnR : Int) (uR : Int) (lu : Int) (ru : Int) (su : Int) (qu : Int) (pl : Int) (rv : Value) (si : Int → Nat) (D : Int → Int) (CR : Int → Int) (FR : Int → Int) (LF : Int → Int) (RF : Int → Int) (SF : Int → Int) (QF : Int → Int) (P : Int → Int) (vs : Nat → VS) (tp : Nat → TS) (st : AS) (hCX : CX tp tr st) (hCI : CI D at_ en st) (hcm : 0 ≤ cm ∧ cm < 65536) (sz : Nat) : Met l yMr_findToken wsMr_findToken rmMr_findToken (PC (dC, dI) vwCl (tyA dA) (XC dS) [.ref b] (wMr dA b tr hg wk at_ en cm rg st0 en0 lg tR ngR scR lnR uR lu ru su qu pl rv si D CR FR LF RF SF QF P (tl0 dA b vs tp)) sz) (qMr_findToken dC dI dA dS b tr hg wk at_ en cm rg st0 en0 lg tR ngR scR lnR uR lu ru su qu pl rv si D CR FR LF RF SF QF P vs tp st (va_A (wMr dA b tr hg wk at_ en cm rg st0 en0 lg tR ngR scR lnR uR lu ru su qu pl rv si D CR FR LF RF SF QF P (tl0 dA b vs tp)) sz)) 0 0 (va_A (wMr dA b tr hg wk at_ en cm rg st0 en0 lg tR ngR scR lnR uR lu ru su qu pl rv si D CR FR LF RF SF QF P (tl0 dA b vs tp)) sz) := by
  refine met_of (cc := prog_1_method_14_code) (maxL := 1) (ret := (some .boolean)) (Qc := qMr_findToken dC dI dA dS b tr hg wk at_ en cm rg st0 en0 lg tR ngR scR lnR uR lu ru su qu pl rv si D CR FR LF RF SF QF P vs tp st) (XC_ok dS) (by decide) rfl (Nat.le_of_ble_eq_true rfl) ?_
  intro p e s m below meth c ls A hx hb hr hml hown hts hlocks hnm hK hP hD hA hX hS hl
  have hl : lv_has ls 1 [(0, .ref b)] := hl
  have hown : s.vm.findClass "MacroReckoner" = some m.cls := hown
  obtain ⟨H, hH⟩ : ∃ H : Heap, H = s.heap := ⟨_, rfl⟩
  obtain ⟨locs, hlo⟩ : ∃ L : List Loc, L = [] := ⟨_, rfl⟩
  have hP : va_P (dC, dI) vwCl (wMr dA b tr hg wk at_ en cm rg st0 en0 lg tR ngR scR lnR uR lu ru su qu pl rv si D CR FR LF RF SF QF P (tl0 dA b vs tp)) H := hH ▸ hP
  have hS : va_S A s.heap H locs := by rw [hH, hlo]; exact hS
  suffices hgo : W p l e rmMr_findToken s m [.ref b].toArray below meth c H locs 0 0 (MQ below (qMr_findToken dC dI dA dS b tr hg wk at_ en cm rg st0 en0 lg tR ngR scR lnR uR lu ru su qu pl rv si D CR FR LF RF SF QF P vs tp st A) [.ref b].toArray s 0 0 A) (F0 m 0 ls []) by rw [hH, hlo] at hgo; exact hgo
  clear hH hlo
  refine lv_aload_n hx hb dMr_findToken_0 rfl (lv_at hl 0 rfl) ?_
  refine cvA_v (va_runV (C := "MacroReckoner") (As := []) (rest := []) ⟨hx, hb, hml, hown, hts⟩ (cMr_forgetSpentTexts l dC dI dA dS b tr hg wk at_ en cm rg st0 en0 lg tR ngR scR lnR uR lu ru su qu pl rv si D CR FR LF RF SF QF P vs tp st (by exact hCX) H.size) (cwV 0 hts (gdV wt2_2 wt2_4 ws1_0 wt1_1 wt2_5) rfl rfl rfl ⟨rfl, by decide, by decide, by decide +kernel⟩ ⟨by decide, by decide⟩) (preVA (q := ("MacroReckoner", TMr, 11)) hK hP hD hS hA (XC_ok dS) hX 0 rfl rfl) rfl rfl hl.1 rfl (lv_room (Nat.le_of_ble_eq_true rfl)) dMr_findToken_1 ⟨Nat.zero_le _, Nat.zero_le _⟩) hD hS hA (fun u_ H locs hq1 hP hD hS => ?_)
  obtain ⟨tr1_1, rfl⟩ : ∃ z, z = u_ := ⟨_, rfl⟩
  have hP : va_P (dC, dI) vwCl (wMr dA b tr1_1 hg wk at_ en cm rg st0 en0 lg tR ngR scR lnR uR lu ru su qu pl ((rv)) si D CR FR LF RF SF QF P (tl0 dA b vs tp)) H := hP
  have hD : va_D A (wMr dA b tr1_1 hg wk at_ en cm rg st0 en0 lg tR ngR scR lnR uR lu ru su qu pl ((rv)) si D CR FR LF RF SF QF P (tl0 dA b vs tp)) := hD
  have hq1 : tr1_1 = st.tn := hq1
  have hCX1 : CX tp tr1_1 st := by rw [hq1]; exact CX_t hCX
  have hx1 := hCX1.1
  have hTI := hCI.1
  refine lv_aload_n hx hb dMr_findToken_4 rfl (lv_at hl 0 rfl) ?_
  refine va_get (D := (dC, dI)) (ci := 6) (v := .ref (b + 4)) (C := "MacroReckoner") (T := TMr) (N := 11) hx hb hts inMr hown hK hP 0 rfl rfl 3 (by decide) (hts _ wt1_176) (fun _ h9 => h9) rfl dMr_findToken_5 ?_
  refine lv_aload_n hx hb dMr_findToken_8 rfl (lv_at hl 0 rfl) ?_
  refine cvA_r (va_runV (C := "MacroReckoner") (As := []) (rest := [.ref (b + 4)]) ⟨hx, hb, hml, hown, hts⟩ (cMr_source l dC dI dA dS b tr1_1 hg wk at_ en cm rg st0 en0 lg tR ngR scR lnR uR lu ru su qu pl ((rv)) si D CR FR LF RF SF QF P vs tp st (by omega) H.size) (cwV 0 hts (gdV wt2_106 wt2_108 ws1_4 wt1_1 wt2_109) rfl rfl rfl ⟨rfl, by decide, by decide, by decide +kernel⟩ ⟨by decide, by decide⟩) (preVA (q := ("MacroReckoner", TMr, 11)) hK hP hD hS hA (XC_ok dS) hX 0 rfl rfl) rfl rfl hl.1 rfl (lv_room (Nat.le_of_ble_eq_true rfl)) dMr_findToken_9 ⟨Nat.zero_le _, Nat.zero_le _⟩) hD hS hA (fun r9 u_ H locs hq9 hP hD hS => ?_)
  have hP : va_P (dC, dI) vwCl (wMr dA b tr1_1 hg wk at_ en cm rg st0 en0 lg tR ngR scR lnR uR lu ru su qu pl ((((rv)))) si D CR FR LF RF SF QF P (tl0 dA b vs tp)) H := hP
  have hD : va_D A (wMr dA b tr1_1 hg wk at_ en cm rg st0 en0 lg tR ngR scR lnR uR lu ru su qu pl ((((rv)))) si D CR FR LF RF SF QF P (tl0 dA b vs tp)) := hD
  have hq9 : (0 < tr1_1 ∧ r9 = b + 22 + 2 * (tr1_1 - 1).toNat) ∨ (tr1_1 ≤ 0 ∧ r9 = b + 1) := hq9
  obtain ⟨r9_a, r9_e⟩ : ∃ z : Nat, z = r9 := ⟨_, rfl⟩
  refine lv_aload_n hx hb dMr_findToken_12 rfl (lv_at hl 0 rfl) ?_
  refine va_get (D := (dC, dI)) (ci := 6) (v := .int (iI tr1_1)) (C := "MacroReckoner") (T := TMr) (N := 11) hx hb hts inMr hown hK hP 0 rfl rfl 2 (by decide) (hts _ wt1_175) (fun _ h9 => h9) rfl dMr_findToken_13 ?_
  refine iv_if_le (tgt := 23) hx hb dMr_findToken_16 (by decide) ⟨by omega, by omega⟩ (fun hc16 => ?_) (fun hc16 => ?_)
  · refine lv_iconst (v := iI 0) hx hb dMr_findToken_23 rfl ?_
    have e_r9 : r9 = b + 1 := by omega
    rw [e_r9]
    refine cvT_i (we := wMr dA b tr1_1 hg wk at_ en cm rg st0 en0 lg tR ngR scR lnR uR lu ru su qu pl ((((rv)))) si D CR FR LF RF SF QF P []) (tl := tl0 dA b vs tp) (va_runV (C := "MacroReckoner$Token") (As := [.ref (b + 1), .int (iI 0)]) (rest := []) ⟨hx, hb, hml, hown, hts⟩ (cTo_read l dC dI dA dS (b + 4) cm rg (((((rv))))) st0 en0 lg (b + 1) (b + 2) 100 D at_ en 0 (by exact hTI) (by omega) H.size) (cwV 2 hts (gdV wt2_110 wt2_111 wt2_112 wt1_3 wt2_113) rfl rfl rfl ⟨rfl, by decide, by decide, by decide +kernel⟩ ⟨by decide, by decide⟩) (preV (q := ("MacroReckoner$Token", TTo, 6)) hK hP hD hS hA (XC_ok dS) hX [4, 1, 2] rfl rfl 0 rfl rfl) rfl rfl hl.1 rfl (lv_room (Nat.le_of_ble_eq_true rfl)) dMr_findToken_24 ⟨Nat.zero_le _, Nat.zero_le _⟩) hP hD hS hA [4, 1, 2] [0, 3, 5, 6, 7, 8, 9, 10, 11, 12, 13, 14, 15, 16, 17, 18, 19, 20, 21] rfl (fun v_ => wMr dA b tr1_1 hg wk v_.1 en v_.2.2.2.2.2 v_.2.2.1 v_.1 en v_.2.2.2.1 tR ngR scR lnR uR lu ru su qu pl ((.ref ((b + 2)))) si D CR FR LF RF SF QF P []) (fun _ => rfl) ((b, .inr (6, [.ref (b + 1), .ref (b + 3), .int (iI tr1_1), .ref (b + 4), .ref (b + 5), .int (iI hg), .ref (b + 6), .int (iI wk), .ref (b + 7), .ref (b + 11), .ref (b + 20)])) :: (b + 3, .inl (dA 5, 8, .inr (.inr (.inr (.inr (arR (tfA b))))))) :: (b + 5, .inl (dA 4, 20, .inr (.inr (.inr (.inr (arR (sfA b si))))))) :: (b + 6, .inl (dA 4, 26, .inr (.inr (.inr (.inr (arR (rfA b))))))) :: (b + 7, .inr (4, [.int (iI tR), .ref (b + 8), .int (iI ngR), .int (iI scR), .ref (b + 10), .int (iI lnR)])) :: (b + 8, .inr (5, [.ref (b + 9), .int (iI uR)])) :: (b + 9, .inl (dA 0, 32, .inl (arI FR))) :: (b + 10, .inl (dA 1, 60, .inl (arI CR))) :: (b + 11, .inr (0, [.ref (b + 7), .ref (b + 12), .ref (b + 14), .ref (b + 16), .ref (b + 18)])) :: (b + 12, .inr (5, [.ref (b + 13), .int (iI lu)])) :: (b + 13, .inl (dA 0, 32, .inl (arI LF))) :: (b + 14, .inr (5, [.ref (b + 15), .int (iI ru)])) :: (b + 15, .inl (dA 0, 32, .inl (arI RF))) :: (b + 16, .inr (5, [.ref (b + 17), .int (iI su)])) :: (b + 17, .inl (dA 0, 32, .inl (arI SF))) :: (b + 18, .inr (5, [.ref (b + 19), .int (iI qu)])) :: (b + 19, .inl (dA 0, 32, .inl (arI QF))) :: (b + 20, .inr (1, [.ref (b + 21), .int (iI pl)])) :: (b + 21, .inl (dA 1, 200, .inl (arI P))) :: []) rfl (fun _ => rfl) [b, b + 1, b + 2, b + 3, b + 4, b + 5, b + 6, b + 7, b + 8, b + 9, b + 10, b + 11, b + 12, b + 13, b + 14, b + 15, b + 16, b + 17, b + 18, b + 19, b + 20, b + 21] rfl (fun _ => rfl) (fun _ => rfl) (fun r24 u_ H locs hq24 hP hD hS => ?_)
    obtain ⟨a1_24, cm1_24, rg1_24, lg1_24, uf_24, cm2_24⟩ := u_
    have hP : va_P (dC, dI) vwCl (wMr dA b tr1_1 hg wk a1_24 en cm2_24 rg1_24 a1_24 en lg1_24 tR ngR scR lnR uR lu ru su qu pl ((.ref ((b + 2)))) si D CR FR LF RF SF QF P (tl0 dA b vs tp)) H := hP
    have hD : va_D A (wMr dA b tr1_1 hg wk a1_24 en cm2_24 rg1_24 a1_24 en lg1_24 tR ngR scR lnR uR lu ru su qu pl ((.ref ((b + 2)))) si D CR FR LF RF SF QF P (tl0 dA b vs tp)) := hD
    have hq24 : skR D at_ en a1_24 ∧ ((a1_24 = en ∧ r24 = 0 ∧ cm2_24 = cm ∧ rg1_24 = rg ∧ lg1_24 = lg) ∨ (a1_24 < en ∧ msR D a1_24 en (D a1_24) rg cm1_24 rg1_24 lg1_24 uf_24 ∧ ((uf_24 = 1 ∧ ((0 : Int)) = 1 ∧ cm1_24 ≠ 48 ∧ cm2_24 = 0) ∨ (¬ (uf_24 = 1 ∧ ((0 : Int)) = 1 ∧ cm1_24 ≠ 48) ∧ cm2_24 = cm1_24)) ∧ ((r24 = 1 ∧ (((0 : Int)) = 1 ∨ uf_24 = 0)) ∨ (r24 = 0 ∧ ((0 : Int)) = 0 ∧ uf_24 = 1)))) := hq24
    have hsk9 := hq24.1
    have hcs := CI_sk hCI hsk9
    have htn0 : ¬ 0 < st.tn := by omega
    have hsd : srD st = st.inp := by unfold srD; exact if_neg htn0
    have hse : srE st = st.il := by unfold srE; exact if_neg htn0
    have hfe := fnd_e (by rw [hsd, hse]; exact hcs.1) (Or.inr ⟨by omega, rfl⟩) hcs.2.2.1 hq24
    have hr24 : r24 = 0 ∨ r24 = 1 := by rcases hfe with ⟨z, -⟩ | ⟨z, -⟩ <;> omega
    have hcmb : 0 ≤ cm2_24 ∧ cm2_24 < 65536 := fnd_c hq24 hcm hcs.2.2.1
    clear hq24
    clear hq24
    exact rt_z hx hb hr hlocks hK hS dMr_findToken_27 (nrw_bool (by omega)) (tr1_1, cm2_24, rg1_24, (.ref ((b + 2))), a1_24, en, lg1_24, a1_24, tp) hP hD (show tr1_1 = st.tn ∧ CX tp tr1_1 st ∧ CI D a1_24 en st ∧ tkI st r24 cm2_24 lg1_24 rg1_24 ∧ tkS b tp D ((.ref ((b + 2)))) a1_24 en tr1_1 (srD st) (srE st) ∧ ((0 < tr1_1 ∧ tp (tr1_1 - 1).toNat = ((tp (tr1_1 - 1).toNat).1, a1_24, en)) ∨ (tr1_1 ≤ 0 ∧ a1_24 = a1_24 ∧ en = en)) ∧ 0 ≤ cm2_24 ∧ cm2_24 < 65536 from by first | (rw [← hq1] at hcs; refine ⟨hq1, hcs.2.2.2, hCI, hfe, Or.inl ⟨by omega, rfl, hcs.2.1, ?_, ?_⟩, Or.inl ⟨by omega, ?_⟩, hcmb⟩; (rw [upF_s]; exact hcs.1); (rw [upF_s]; exact hcs.2.2.1); rw [upF_s]) | (refine ⟨hq1, hCX1, hcs.2.2.2, hfe, Or.inr ⟨by omega, rfl, hcs.2.1, by rw [hsd, hse]; exact hcs.1, hcs.2.2.1⟩, Or.inr ⟨by omega, rfl, rfl⟩, hcmb⟩))
  · refine lv_iconst (v := iI 1) hx hb dMr_findToken_19 rfl ?_
    refine lv_goto (tgt := 24) hx hb dMr_findToken_20 (by decide) ?_
    have e_r9 : r9 = b + 22 + 2 * (tr1_1 - 1).toNat := by omega
    obtain ⟨⟨Dv, atv, env⟩, e_tv⟩ : ∃ z : TS, z = tp ((tr1_1 - 1).toNat) := ⟨_, rfl⟩
    have hP := va_P_pm (wMr_p (fT1 (dA := dA) (b := b) (vs := vs) (tp := tp) (k := (tr1_1 - 1).toNat) (by omega))) hP
    have hD := va_D_pm (wMr_p (fT1 (dA := dA) (b := b) (vs := vs) (tp := tp) (k := (tr1_1 - 1).toNat) (by omega))) hD
    rw [← e_tv, ← e_r9] at hP hD
    have hP : va_P (dC, dI) vwCl (wMr dA b tr1_1 hg wk at_ en cm rg st0 en0 lg tR ngR scR lnR uR lu ru su qu pl ((((rv)))) si D CR FR LF RF SF QF P (wTx dA r9 Dv atv env (tT1 dA b vs tp ((tr1_1 - 1).toNat)))) H := hP
    have hD : va_D A (wMr dA b tr1_1 hg wk at_ en cm rg st0 en0 lg tR ngR scR lnR uR lu ru su qu pl ((((rv)))) si D CR FR LF RF SF QF P (wTx dA r9 Dv atv env (tT1 dA b vs tp ((tr1_1 - 1).toNat)))) := hD
    have hTP : TP 60 Dv atv env := by have h := CX_tp hCX1 (i := tr1_1 - 1) (by omega) (by omega); rw [← e_tv] at h; exact h
    refine cvT_i (we := wMr dA b tr1_1 hg wk at_ en cm rg st0 en0 lg tR ngR scR lnR uR lu ru su qu pl ((((rv)))) si D CR FR LF RF SF QF P (wTx dA r9 Dv atv env [])) (tl := tT1 dA b vs tp ((tr1_1 - 1).toNat)) (va_runV (C := "MacroReckoner$Token") (As := [.ref r9, .int (iI 1)]) (rest := []) ⟨hx, hb, hml, hown, hts⟩ (cTo_read l dC dI dA dS (b + 4) cm rg (((((rv))))) st0 en0 lg r9 (r9 + 1) 60 Dv atv env 1 (by exact hTP) (by omega) H.size) (cwV 2 hts (gdV wt2_110 wt2_111 wt2_112 wt1_3 wt2_113) rfl rfl rfl ⟨rfl, by decide, by decide, by decide +kernel⟩ ⟨by decide, by decide⟩) (preV (q := ("MacroReckoner$Token", TTo, 6)) hK hP hD hS hA (XC_ok dS) hX [4, 22, 23] rfl rfl 0 rfl rfl) rfl rfl hl.1 rfl (lv_room (Nat.le_of_ble_eq_true rfl)) dMr_findToken_24 ⟨Nat.zero_le _, Nat.zero_le _⟩) hP hD hS hA [4, 22, 23] [0, 1, 2, 3, 5, 6, 7, 8, 9, 10, 11, 12, 13, 14, 15, 16, 17, 18, 19, 20, 21] rfl (fun v_ => wMr dA b tr1_1 hg wk at_ en v_.2.2.2.2.2 v_.2.2.1 v_.1 env v_.2.2.2.1 tR ngR scR lnR uR lu ru su qu pl ((.ref ((r9 + 1)))) si D CR FR LF RF SF QF P (wTx dA r9 Dv v_.1 env [])) (fun _ => rfl) ((b, .inr (6, [.ref (b + 1), .ref (b + 3), .int (iI tr1_1), .ref (b + 4), .ref (b + 5), .int (iI hg), .ref (b + 6), .int (iI wk), .ref (b + 7), .ref (b + 11), .ref (b + 20)])) :: (b + 1, .inr (2, [.ref (b + 2), .int (iI at_), .int (iI en)])) :: (b + 2, .inl (dA 1, 100, .inl (arI D))) :: (b + 3, .inl (dA 5, 8, .inr (.inr (.inr (.inr (arR (tfA b))))))) :: (b + 5, .inl (dA 4, 20, .inr (.inr (.inr (.inr (arR (sfA b si))))))) :: (b + 6, .inl (dA 4, 26, .inr (.inr (.inr (.inr (arR (rfA b))))))) :: (b + 7, .inr (4, [.int (iI tR), .ref (b + 8), .int (iI ngR), .int (iI scR), .ref (b + 10), .int (iI lnR)])) :: (b + 8, .inr (5, [.ref (b + 9), .int (iI uR)])) :: (b + 9, .inl (dA 0, 32, .inl (arI FR))) :: (b + 10, .inl (dA 1, 60, .inl (arI CR))) :: (b + 11, .inr (0, [.ref (b + 7), .ref (b + 12), .ref (b + 14), .ref (b + 16), .ref (b + 18)])) :: (b + 12, .inr (5, [.ref (b + 13), .int (iI lu)])) :: (b + 13, .inl (dA 0, 32, .inl (arI LF))) :: (b + 14, .inr (5, [.ref (b + 15), .int (iI ru)])) :: (b + 15, .inl (dA 0, 32, .inl (arI RF))) :: (b + 16, .inr (5, [.ref (b + 17), .int (iI su)])) :: (b + 17, .inl (dA 0, 32, .inl (arI SF))) :: (b + 18, .inr (5, [.ref (b + 19), .int (iI qu)])) :: (b + 19, .inl (dA 0, 32, .inl (arI QF))) :: (b + 20, .inr (1, [.ref (b + 21), .int (iI pl)])) :: (b + 21, .inl (dA 1, 200, .inl (arI P))) :: []) rfl (fun _ => rfl) [b, b + 1, b + 2, b + 3, b + 4, b + 5, b + 6, b + 7, b + 8, b + 9, b + 10, b + 11, b + 12, b + 13, b + 14, b + 15, b + 16, b + 17, b + 18, b + 19, b + 20, b + 21, r9, r9 + 1] rfl (fun _ => rfl) (fun _ => rfl) (fun r24 u_ H locs hq24 hP hD hS => ?_)
    obtain ⟨a1_24, cm1_24, rg1_24, lg1_24, uf_24, cm2_24⟩ := u_
    have hP : va_P (dC, dI) vwCl (wMr dA b tr1_1 hg wk at_ en cm2_24 rg1_24 a1_24 env lg1_24 tR ngR scR lnR uR lu ru su qu pl ((.ref ((r9 + 1)))) si D CR FR LF RF SF QF P (wTx dA r9 Dv a1_24 env (tT1 dA b vs tp ((tr1_1 - 1).toNat)))) H := hP
    have hD : va_D A (wMr dA b tr1_1 hg wk at_ en cm2_24 rg1_24 a1_24 env lg1_24 tR ngR scR lnR uR lu ru su qu pl ((.ref ((r9 + 1)))) si D CR FR LF RF SF QF P (wTx dA r9 Dv a1_24 env (tT1 dA b vs tp ((tr1_1 - 1).toNat)))) := hD
    have hq24 : skR Dv atv env a1_24 ∧ ((a1_24 = env ∧ r24 = 0 ∧ cm2_24 = cm ∧ rg1_24 = rg ∧ lg1_24 = lg) ∨ (a1_24 < env ∧ msR Dv a1_24 env (Dv a1_24) rg cm1_24 rg1_24 lg1_24 uf_24 ∧ ((uf_24 = 1 ∧ ((1 : Int)) = 1 ∧ cm1_24 ≠ 48 ∧ cm2_24 = 0) ∨ (¬ (uf_24 = 1 ∧ ((1 : Int)) = 1 ∧ cm1_24 ≠ 48) ∧ cm2_24 = cm1_24)) ∧ ((r24 = 1 ∧ (((1 : Int)) = 1 ∨ uf_24 = 0)) ∨ (r24 = 0 ∧ ((1 : Int)) = 0 ∧ uf_24 = 1)))) := hq24
    have hsk9 := hq24.1
    rw [hq1] at hCX1
    have hcs := CX_sk hCX1 (by omega) (by rw [← hq1]; exact e_tv) hsk9
    have hfe := fnd_e hcs.1 (Or.inl ⟨by omega, rfl⟩) hcs.2.2.1 hq24
    have hr24 : r24 = 0 ∨ r24 = 1 := by rcases hfe with ⟨z, -⟩ | ⟨z, -⟩ <;> omega
    have hcmb : 0 ≤ cm2_24 ∧ cm2_24 < 65536 := fnd_c hq24 hcm hcs.2.2.1
    clear hq24
    clear hq24
    rw [e_r9] at hP hD
    have hP := va_P_pm (wMr_p (uT1 (dA := dA) (b := b) (vs := vs) (tp := tp) (k := (tr1_1 - 1).toNat) (v := (Dv, a1_24, env)) (by omega))) hP
    have hD := va_D_pm (wMr_p (uT1 (dA := dA) (b := b) (vs := vs) (tp := tp) (k := (tr1_1 - 1).toNat) (v := (Dv, a1_24, env)) (by omega))) hD
    have hP : va_P (dC, dI) vwCl (wMr dA b tr1_1 hg wk at_ en cm2_24 rg1_24 a1_24 env lg1_24 tR ngR scR lnR uR lu ru su qu pl ((.ref (((b + 22 + 2 * (tr1_1 - 1).toNat) + 1)))) si D CR FR LF RF SF QF P (tl0 dA b vs (upF tp ((tr1_1 - 1).toNat) (Dv, a1_24, env)))) H := hP
    have hD : va_D A (wMr dA b tr1_1 hg wk at_ en cm2_24 rg1_24 a1_24 env lg1_24 tR ngR scR lnR uR lu ru su qu pl ((.ref (((b + 22 + 2 * (tr1_1 - 1).toNat) + 1)))) si D CR FR LF RF SF QF P (tl0 dA b vs (upF tp ((tr1_1 - 1).toNat) (Dv, a1_24, env)))) := hD
    exact rt_z hx hb hr hlocks hK hS dMr_findToken_27 (nrw_bool (by omega)) (tr1_1, cm2_24, rg1_24, (.ref (((b + 22 + 2 * (tr1_1 - 1).toNat) + 1))), a1_24, env, lg1_24, at_, upF tp ((tr1_1 - 1).toNat) (Dv, a1_24, env)) hP hD (show tr1_1 = st.tn ∧ CX (upF tp ((tr1_1 - 1).toNat) (Dv, a1_24, env)) tr1_1 st ∧ CI D at_ en st ∧ tkI st r24 cm2_24 lg1_24 rg1_24 ∧ tkS b (upF tp ((tr1_1 - 1).toNat) (Dv, a1_24, env)) D ((.ref (((b + 22 + 2 * (tr1_1 - 1).toNat) + 1)))) a1_24 env tr1_1 (srD st) (srE st) ∧ ((0 < tr1_1 ∧ (upF tp ((tr1_1 - 1).toNat) (Dv, a1_24, env)) (tr1_1 - 1).toNat = (((upF tp ((tr1_1 - 1).toNat) (Dv, a1_24, env)) (tr1_1 - 1).toNat).1, a1_24, env)) ∨ (tr1_1 ≤ 0 ∧ at_ = a1_24 ∧ en = env)) ∧ 0 ≤ cm2_24 ∧ cm2_24 < 65536 from by first | (rw [← hq1] at hcs; refine ⟨hq1, hcs.2.2.2, hCI, hfe, Or.inl ⟨by omega, rfl, hcs.2.1, ?_, ?_⟩, Or.inl ⟨by omega, ?_⟩, hcmb⟩; (rw [upF_s]; exact hcs.1); (rw [upF_s]; exact hcs.2.2.1); rw [upF_s]) | (refine ⟨hq1, hCX1, hcs.2.2.2, hfe, Or.inr ⟨by omega, rfl, hcs.2.1, by rw [hsd, hse]; exact hcs.1, hcs.2.2.1⟩, Or.inr ⟨by omega, rfl, rfl⟩, hcmb⟩))

theorem dMr_takeToken_0 : decode prog_1_method_15_code 0 = .ok (.aload_n 0, 1) := by decide +kernel
theorem dMr_takeToken_1 : decode prog_1_method_15_code 1 = .ok (.invokevirtual 130, 3) := by decide +kernel
theorem dMr_takeToken_4 : decode prog_1_method_15_code 4 = .ok (.istore_n 1, 1) := by decide +kernel
theorem dMr_takeToken_5 : decode prog_1_method_15_code 5 = .ok (.iload_n 1, 1) := by decide +kernel
theorem dMr_takeToken_6 : decode prog_1_method_15_code 6 = .ok (.ifCond .eq 17, 3) := by decide +kernel
theorem dMr_takeToken_9 : decode prog_1_method_15_code 9 = .ok (.aload_n 0, 1) := by decide +kernel
theorem dMr_takeToken_10 : decode prog_1_method_15_code 10 = .ok (.invokevirtual 122, 3) := by decide +kernel
theorem dMr_takeToken_13 : decode prog_1_method_15_code 13 = .ok (.aload_n 0, 1) := by decide +kernel
theorem dMr_takeToken_14 : decode prog_1_method_15_code 14 = .ok (.getfield 29, 3) := by decide +kernel
theorem dMr_takeToken_17 : decode prog_1_method_15_code 17 = .ok (.getfield 133, 3) := by decide +kernel
theorem dMr_takeToken_20 : decode prog_1_method_15_code 20 = .ok (.invokevirtual 134, 3) := by decide +kernel
theorem dMr_takeToken_23 : decode prog_1_method_15_code 23 = .ok (.iload_n 1, 1) := by decide +kernel
theorem dMr_takeToken_24 : decode prog_1_method_15_code 24 = .ok (.ireturn, 1) := by decide +kernel
abbrev qMr_takeToken (dC : Nat → ClassId) (dI : Nat → Nat → Nat) (dA : Nat → ClassId) (dS : Nat → Nat) (b : Nat) (tr : Int) (hg : Int) (wk : Int) (at_ : Int) (en : Int) (cm : Int) (rg : Int) (st0 : Int) (en0 : Int) (lg : Int) (tR : Int) (ngR : Int) (scR : Int) (lnR : Int) (uR : Int) (lu : Int) (ru : Int) (su : Int) (qu : Int) (pl : Int) (rv : Value) (si : Int → Nat) (D : Int → Int) (CR : Int → Int) (FR : Int → Int) (LF : Int → Int) (RF : Int → Int) (SF : Int → Int) (QF : Int → Int) (P : Int → Int) (vs : Nat → VS) (tp : Nat → TS) (st : AS) (A : Nat → Prop) : Array Value → State → Outcome → State → Prop := QI (dC, dI) vwCl (tyA dA) (fun (r : Int) (v_ : Int × Int × Int × Value × Int × Int × Int × Int × (Nat → TS)) => v_.1 = st.tn ∧ tkI st r v_.2.1 v_.2.2.2.2.2.2.1 v_.2.2.1 ∧ (0 ≤ v_.2.1 ∧ v_.2.1 < 65536) ∧ (r = 0 → CX v_.2.2.2.2.2.2.2.2 v_.1 st ∧ CI D v_.2.2.2.2.2.2.2.1 en st) ∧ (r = 1 → CX v_.2.2.2.2.2.2.2.2 v_.1 (takA st v_.2.2.2.2.2.2.1) ∧ CI D v_.2.2.2.2.2.2.2.1 en (takA st v_.2.2.2.2.2.2.1) ∧ tkS b v_.2.2.2.2.2.2.2.2 D v_.2.2.2.1 v_.2.2.2.2.1 v_.2.2.2.2.2.1 v_.1 (srD st) (srE st))) (fun (v_ : Int × Int × Int × Value × Int × Int × Int × Int × (Nat → TS)) => wMr dA b v_.1 hg wk v_.2.2.2.2.2.2.2.1 en v_.2.1 v_.2.2.1 v_.2.2.2.2.1 v_.2.2.2.2.2.1 v_.2.2.2.2.2.2.1 tR ngR scR lnR uR lu ru su qu pl v_.2.2.2.1 si D CR FR LF RF SF QF P (tl0 dA b vs v_.2.2.2.2.2.2.2.2)) A
abbrev rmMr_takeToken : Room := { frames := 5, cells := 0, slots := 0, locals := 106 }
set_option maxRecDepth 100000 in
set_option maxHeartbeats 1000000 in
theorem cMr_takeToken (l : Launch) (dC : Nat → ClassId) (dI : Nat → Nat → Nat) (dA : Nat → ClassId) (dS : Nat → Nat) (b : Nat) (tr : Int) (hg : Int) (wk : Int) (at_ : Int) (en : Int) (cm : Int) (rg : Int) (st0 : Int) (en0 : Int) (lg : Int) (tR : Int) (ngR : Int) (scR : Int) (lnR : Int) (uR : Int) (lu : Int) (ru : Int) (su : Int) (qu : Int) (pl : Int) (rv : Value) (si : Int → Nat) (D : Int → Int) (CR : Int → Int) (FR : Int → Int) (LF : Int → Int) (RF : Int → Int) (SF : Int → Int) (QF : Int → Int) (P : Int → Int) (vs : Nat → VS) (tp : Nat → TS) (st : AS) (hCX : CX tp tr st) (hCI : CI D at_ en st) (hcm : 0 ≤ cm ∧ cm < 65536) (sz : Nat) : Met l yMr_takeToken wsMr_takeToken rmMr_takeToken (PC (dC, dI) vwCl (tyA dA) (XC dS) [.ref b] (wMr dA b tr hg wk at_ en cm rg st0 en0 lg tR ngR scR lnR uR lu ru su qu pl rv si D CR FR LF RF SF QF P (tl0 dA b vs tp)) sz) (qMr_takeToken dC dI dA dS b tr hg wk at_ en cm rg st0 en0 lg tR ngR scR lnR uR lu ru su qu pl rv si D CR FR LF RF SF QF P vs tp st (va_A (wMr dA b tr hg wk at_ en cm rg st0 en0 lg tR ngR scR lnR uR lu ru su qu pl rv si D CR FR LF RF SF QF P (tl0 dA b vs tp)) sz)) 0 0 (va_A (wMr dA b tr hg wk at_ en cm rg st0 en0 lg tR ngR scR lnR uR lu ru su qu pl rv si D CR FR LF RF SF QF P (tl0 dA b vs tp)) sz) := by
  refine met_of (cc := prog_1_method_15_code) (maxL := 2) (ret := (some .boolean)) (Qc := qMr_takeToken dC dI dA dS b tr hg wk at_ en cm rg st0 en0 lg tR ngR scR lnR uR lu ru su qu pl rv si D CR FR LF RF SF QF P vs tp st) (XC_ok dS) (by decide) rfl (Nat.le_of_ble_eq_true rfl) ?_
  intro p e s m below meth c ls A hx hb hr hml hown hts hlocks hnm hK hP hD hA hX hS hl
  have hl : lv_has ls 2 [(0, .ref b)] := hl
  have hown : s.vm.findClass "MacroReckoner" = some m.cls := hown
  obtain ⟨H, hH⟩ : ∃ H : Heap, H = s.heap := ⟨_, rfl⟩
  obtain ⟨locs, hlo⟩ : ∃ L : List Loc, L = [] := ⟨_, rfl⟩
  have hP : va_P (dC, dI) vwCl (wMr dA b tr hg wk at_ en cm rg st0 en0 lg tR ngR scR lnR uR lu ru su qu pl rv si D CR FR LF RF SF QF P (tl0 dA b vs tp)) H := hH ▸ hP
  have hS : va_S A s.heap H locs := by rw [hH, hlo]; exact hS
  suffices hgo : W p l e rmMr_takeToken s m [.ref b].toArray below meth c H locs 0 0 (MQ below (qMr_takeToken dC dI dA dS b tr hg wk at_ en cm rg st0 en0 lg tR ngR scR lnR uR lu ru su qu pl rv si D CR FR LF RF SF QF P vs tp st A) [.ref b].toArray s 0 0 A) (F0 m 0 ls []) by rw [hH, hlo] at hgo; exact hgo
  clear hH hlo
  refine lv_aload_n hx hb dMr_takeToken_0 rfl (lv_at hl 0 rfl) ?_
  refine cvA_i (va_runV (C := "MacroReckoner") (As := []) (rest := []) ⟨hx, hb, hml, hown, hts⟩ (cMr_findToken l dC dI dA dS b tr hg wk at_ en cm rg st0 en0 lg tR ngR scR lnR uR lu ru su qu pl rv si D CR FR LF RF SF QF P vs tp st (by exact hCX) (by exact hCI) (by exact hcm) H.size) (cwV 0 hts (gdV wt2_102 wt2_104 ws1_3 wt1_1 wt2_105) rfl rfl rfl ⟨rfl, by decide, by decide, by decide +kernel⟩ ⟨by decide, by decide⟩) (preVA (q := ("MacroReckoner", TMr, 11)) hK hP hD hS hA (XC_ok dS) hX 0 rfl rfl) rfl rfl hl.1 rfl (lv_room (Nat.le_of_ble_eq_true rfl)) dMr_takeToken_1 ⟨Nat.zero_le _, Nat.zero_le _⟩) hD hS hA (fun r1 u_ H locs hq1 hP hD hS => ?_)
  obtain ⟨tr1_1, cm1_1, rg1_1, rv1_1, st01_1, en01_1, lg1_1, at1_1, tp1_1⟩ := u_
  have hP : va_P (dC, dI) vwCl (wMr dA b tr1_1 hg wk at1_1 en cm1_1 rg1_1 st01_1 en01_1 lg1_1 tR ngR scR lnR uR lu ru su qu pl ((rv1_1)) si D CR FR LF RF SF QF P (tl0 dA b vs tp1_1)) H := hP
  have hD : va_D A (wMr dA b tr1_1 hg wk at1_1 en cm1_1 rg1_1 st01_1 en01_1 lg1_1 tR ngR scR lnR uR lu ru su qu pl ((rv1_1)) si D CR FR LF RF SF QF P (tl0 dA b vs tp1_1)) := hD
  have hq1 : tr1_1 = st.tn ∧ CX tp1_1 tr1_1 st ∧ CI D at1_1 en st ∧ tkI st r1 cm1_1 lg1_1 rg1_1 ∧ tkS b tp1_1 D rv1_1 st01_1 en01_1 tr1_1 (srD st) (srE st) ∧ ((0 < tr1_1 ∧ tp1_1 (tr1_1 - 1).toNat = ((tp1_1 (tr1_1 - 1).toNat).1, st01_1, en01_1)) ∨ (tr1_1 ≤ 0 ∧ at1_1 = st01_1 ∧ en = en01_1)) ∧ 0 ≤ cm1_1 ∧ cm1_1 < 65536 := hq1
  obtain ⟨hf1, hCX1, hCI1, htk9, hts9, hta9, hcm9⟩ := hq1
  have hx1 := hCX1.1
  have hr1 : r1 = 0 ∨ r1 = 1 := by rcases htk9 with ⟨z, -⟩ | ⟨z, -⟩ <;> omega
  refine lv_istore_n (lv' := [(1, .int (iI r1)), (0, .ref b)]) hx hb dMr_takeToken_4 rfl hl (by decide) rfl (fun ls hl => ?_)
  refine lv_iload_n hx hb dMr_takeToken_5 rfl (lv_at hl 0 rfl) ?_
  refine iv_if_eq (tgt := 23) hx hb dMr_takeToken_6 (by decide) ⟨by omega, by omega⟩ (fun hc6 => ?_) (fun hc6 => ?_)
  · refine lv_iload_n hx hb dMr_takeToken_23 rfl (lv_at hl 0 rfl) ?_
    exact rt_z hx hb hr hlocks hK hS dMr_takeToken_24 (nrw_bool (by omega)) (tr1_1, cm1_1, rg1_1, (rv1_1), st01_1, en01_1, lg1_1, at1_1, tp1_1) hP hD (show tr1_1 = st.tn ∧ tkI st r1 cm1_1 lg1_1 rg1_1 ∧ (0 ≤ cm1_1 ∧ cm1_1 < 65536) ∧ (r1 = 0 → CX tp1_1 tr1_1 st ∧ CI D at1_1 en st) ∧ (r1 = 1 → CX tp1_1 tr1_1 (takA st lg1_1) ∧ CI D at1_1 en (takA st lg1_1) ∧ tkS b tp1_1 D ((rv1_1)) st01_1 en01_1 tr1_1 (srD st) (srE st)) from by refine ⟨hf1, htk9, hcm9, fun z => ?_, fun z => ?_⟩; (first | exact ⟨hCX1, hCI1⟩ | omega); (first | omega | (have hts := hts9.resolve_right (fun w => by omega); rw [← e_tv, ← hat9.1, ← hat9.2] at hts; rw [hf1] at hCX1; have ht0 : 0 < st.tn := (by omega); have hct := CX_tk (lg := lg1_1) hCX1 ht0 (by rw [← hf1]; exact e_tv) hts.2.2.2.1 ⟨by omega, by omega⟩; rw [← hf1] at hct; refine ⟨hct.1, CI_c hCI1 hct.2.1 hct.2.2, Or.inl ⟨hsp, hts.2.1, by rw [← hat9.1, ← hat9.2]; exact hts.2.2.1, ?_, ?_⟩⟩; (rw [upF_s, ← hat9.1, ← hat9.2]; exact hts.2.2.2.1); (rw [upF_s, ← hat9.1, ← hat9.2]; exact hts.2.2.2.2)) | (have hts := hts9.resolve_left (fun w => by omega); have ht0 : ¬ 0 < st.tn := (by omega); have hta := hta9.resolve_left (fun w => by omega); have hsd : srD st = st.inp := (by unfold srD; exact if_neg ht0); have hse : srE st = st.il := (by unfold srE; exact if_neg ht0); have hag := hts.2.2.2.1; rw [hsd, hse, ← hta.2.1, ← hta.2.2] at hag; have hct := CI_tk (lg := lg1_1) hCI1 ht0 hag ⟨by omega, by omega⟩; exact ⟨CX_c hCX1 hct.2.1 hct.2.2.1 hct.2.2.2, hct.1, hts9⟩)))
  · refine lv_aload_n hx hb dMr_takeToken_9 rfl (lv_at hl 1 rfl) ?_
    refine cvA_r (va_runV (C := "MacroReckoner") (As := []) (rest := []) ⟨hx, hb, hml, hown, hts⟩ (cMr_source l dC dI dA dS b tr1_1 hg wk at1_1 en cm1_1 rg1_1 st01_1 en01_1 lg1_1 tR ngR scR lnR uR lu ru su qu pl ((rv1_1)) si D CR FR LF RF SF QF P vs tp1_1 st (by omega) H.size) (cwV 0 hts (gdV wt2_106 wt2_108 ws1_4 wt1_1 wt2_109) rfl rfl rfl ⟨rfl, by decide, by decide, by decide +kernel⟩ ⟨by decide, by decide⟩) (preVA (q := ("MacroReckoner", TMr, 11)) hK hP hD hS hA (XC_ok dS) hX 0 rfl rfl) rfl rfl hl.1 rfl (lv_room (Nat.le_of_ble_eq_true rfl)) dMr_takeToken_10 ⟨Nat.zero_le _, Nat.zero_le _⟩) hD hS hA (fun r10 u_ H locs hq10 hP hD hS => ?_)
    have hP : va_P (dC, dI) vwCl (wMr dA b tr1_1 hg wk at1_1 en cm1_1 rg1_1 st01_1 en01_1 lg1_1 tR ngR scR lnR uR lu ru su qu pl ((((rv1_1)))) si D CR FR LF RF SF QF P (tl0 dA b vs tp1_1)) H := hP
    have hD : va_D A (wMr dA b tr1_1 hg wk at1_1 en cm1_1 rg1_1 st01_1 en01_1 lg1_1 tR ngR scR lnR uR lu ru su qu pl ((((rv1_1)))) si D CR FR LF RF SF QF P (tl0 dA b vs tp1_1)) := hD
    have hq10 : (0 < tr1_1 ∧ r10 = b + 22 + 2 * (tr1_1 - 1).toNat) ∨ (tr1_1 ≤ 0 ∧ r10 = b + 1) := hq10
    have htk8 := htk9.resolve_left (fun z => by omega)
    have hlg8 := htk8.2.2.2.2.1
    obtain ⟨r10_a, r10_e⟩ : ∃ z : Nat, z = r10 := ⟨_, rfl⟩
    refine lv_aload_n hx hb dMr_takeToken_13 rfl (lv_at hl 1 rfl) ?_
    refine va_get (D := (dC, dI)) (ci := 6) (v := .ref (b + 4)) (C := "MacroReckoner") (T := TMr) (N := 11) hx hb hts inMr hown hK hP 0 rfl rfl 3 (by decide) (hts _ wt1_176) (fun _ h9 => h9) rfl dMr_takeToken_14 ?_
    refine va_getN (D := (dC, dI)) (ci := 3) (v := .int (iI lg1_1)) (C := "MacroReckoner$Token") (T := TTo) (N := 6) hx hb hts inTo hown hK hP 4 rfl rfl 5 (by decide) (va_Nw.use rfl (hX.1 ("MacroReckoner", 133, "MacroReckoner$Token", "length", "I", "MacroReckoner") (List.mem_of_getElem? (i := 7) rfl))) (fun _ h9 => h9) rfl dMr_takeToken_17 ?_
    by_cases hsp : 0 < tr1_1
    · have e_r10 : r10 = b + 22 + 2 * (tr1_1 - 1).toNat := by omega
      obtain ⟨⟨Dv, atv, env⟩, e_tv⟩ : ∃ z : TS, z = tp1_1 ((tr1_1 - 1).toNat) := ⟨_, rfl⟩
      have hP := va_P_pm (wMr_p (fT1 (dA := dA) (b := b) (vs := vs) (tp := tp1_1) (k := (tr1_1 - 1).toNat) (by omega))) hP
      have hD := va_D_pm (wMr_p (fT1 (dA := dA) (b := b) (vs := vs) (tp := tp1_1) (k := (tr1_1 - 1).toNat) (by omega))) hD
      rw [← e_tv, ← e_r10] at hP hD
      have hP : va_P (dC, dI) vwCl (wMr dA b tr1_1 hg wk at1_1 en cm1_1 rg1_1 st01_1 en01_1 lg1_1 tR ngR scR lnR uR lu ru su qu pl ((((rv1_1)))) si D CR FR LF RF SF QF P (wTx dA r10 Dv atv env (tT1 dA b vs tp1_1 ((tr1_1 - 1).toNat)))) H := hP
      have hD : va_D A (wMr dA b tr1_1 hg wk at1_1 en cm1_1 rg1_1 st01_1 en01_1 lg1_1 tR ngR scR lnR uR lu ru su qu pl ((((rv1_1)))) si D CR FR LF RF SF QF P (wTx dA r10 Dv atv env (tT1 dA b vs tp1_1 ((tr1_1 - 1).toNat)))) := hD
      have hta := hta9.resolve_right (fun z => by omega)
      rw [← e_tv] at hta
      have hat9 : atv = st01_1 ∧ env = en01_1 := ⟨congrArg (fun z : TS => z.2.1) hta.2, congrArg (fun z : TS => z.2.2) hta.2⟩
      refine cvT_v (we := wMr dA b tr1_1 hg wk at1_1 en cm1_1 rg1_1 st01_1 en01_1 lg1_1 tR ngR scR lnR uR lu ru su qu pl ((((rv1_1)))) si D CR FR LF RF SF QF P (wTx dA r10 Dv atv env [])) (tl := tT1 dA b vs tp1_1 ((tr1_1 - 1).toNat)) (va_runV (C := "MacroReckoner$Tape") (As := [.int (iI lg1_1)]) (rest := []) ⟨hx, hb, hml, hown, hts⟩ (cTa_take l dC dI dA r10 (r10 + 1) 60 Dv atv env lg1_1  H.size) (cwV 1 hts (gdV wt2_140 wt2_141 wt2_142 wt1_2 wt2_143) rfl rfl rfl ⟨rfl, by decide, by decide, by decide +kernel⟩ ⟨by decide, by decide⟩) (preV (q := ("MacroReckoner$Tape", TTa, 3)) hK hP hD hS hA XN_ok trivial [22, 23] rfl rfl 0 rfl rfl) rfl rfl hl.1 rfl (lv_room (Nat.le_of_ble_eq_true rfl)) dMr_takeToken_20 ⟨Nat.zero_le _, Nat.zero_le _⟩) hP hD hS hA [22, 23] [0, 1, 2, 3, 4, 5, 6, 7, 8, 9, 10, 11, 12, 13, 14, 15, 16, 17, 18, 19, 20, 21] rfl (fun v_ => wMr dA b tr1_1 hg wk at1_1 en cm1_1 rg1_1 st01_1 en01_1 lg1_1 tR ngR scR lnR uR lu ru su qu pl ((((rv1_1)))) si D CR FR LF RF SF QF P (wTx dA r10 Dv ((atv + lg1_1)) env [])) (fun _ => rfl) (wMr dA b tr1_1 hg wk at1_1 en cm1_1 rg1_1 st01_1 en01_1 lg1_1 tR ngR scR lnR uR lu ru su qu pl ((((rv1_1)))) si D CR FR LF RF SF QF P []) rfl (fun _ => rfl) [b, b + 1, b + 2, b + 3, b + 4, b + 5, b + 6, b + 7, b + 8, b + 9, b + 10, b + 11, b + 12, b + 13, b + 14, b + 15, b + 16, b + 17, b + 18, b + 19, b + 20, b + 21, r10, r10 + 1] rfl (fun _ => rfl) (fun _ => rfl) (fun u_ H locs hq20 hP hD hS => ?_)
      have hP : va_P (dC, dI) vwCl (wMr dA b tr1_1 hg wk at1_1 en cm1_1 rg1_1 st01_1 en01_1 lg1_1 tR ngR scR lnR uR lu ru su qu pl ((((rv1_1)))) si D CR FR LF RF SF QF P (wTx dA r10 Dv ((atv + lg1_1)) env (tT1 dA b vs tp1_1 ((tr1_1 - 1).toNat)))) H := hP
      have hD : va_D A (wMr dA b tr1_1 hg wk at1_1 en cm1_1 rg1_1 st01_1 en01_1 lg1_1 tR ngR scR lnR uR lu ru su qu pl ((((rv1_1)))) si D CR FR LF RF SF QF P (wTx dA r10 Dv ((atv + lg1_1)) env (tT1 dA b vs tp1_1 ((tr1_1 - 1).toNat)))) := hD
      have hq20 : True := hq20
      rw [e_r10] at hP hD
      have hP := va_P_pm (wMr_p (uT1 (dA := dA) (b := b) (vs := vs) (tp := tp1_1) (k := (tr1_1 - 1).toNat) (v := (Dv, (atv + lg1_1), env)) (by omega))) hP
      have hD := va_D_pm (wMr_p (uT1 (dA := dA) (b := b) (vs := vs) (tp := tp1_1) (k := (tr1_1 - 1).toNat) (v := (Dv, (atv + lg1_1), env)) (by omega))) hD
      have hP : va_P (dC, dI) vwCl (wMr dA b tr1_1 hg wk at1_1 en cm1_1 rg1_1 st01_1 en01_1 lg1_1 tR ngR scR lnR uR lu ru su qu pl ((((rv1_1)))) si D CR FR LF RF SF QF P (tl0 dA b vs (upF tp1_1 ((tr1_1 - 1).toNat) (Dv, (atv + lg1_1), env)))) H := hP
      have hD : va_D A (wMr dA b tr1_1 hg wk at1_1 en cm1_1 rg1_1 st01_1 en01_1 lg1_1 tR ngR scR lnR uR lu ru su qu pl ((((rv1_1)))) si D CR FR LF RF SF QF P (tl0 dA b vs (upF tp1_1 ((tr1_1 - 1).toNat) (Dv, (atv + lg1_1), env)))) := hD
      refine lv_iload_n hx hb dMr_takeToken_23 rfl (lv_at hl 0 rfl) ?_
      exact rt_z hx hb hr hlocks hK hS dMr_takeToken_24 (nrw_bool (by omega)) (tr1_1, cm1_1, rg1_1, (((rv1_1))), st01_1, en01_1, lg1_1, at1_1, upF tp1_1 ((tr1_1 - 1).toNat) (Dv, (atv + lg1_1), env)) hP hD (show tr1_1 = st.tn ∧ tkI st r1 cm1_1 lg1_1 rg1_1 ∧ (0 ≤ cm1_1 ∧ cm1_1 < 65536) ∧ (r1 = 0 → CX (upF tp1_1 ((tr1_1 - 1).toNat) (Dv, (atv + lg1_1), env)) tr1_1 st ∧ CI D at1_1 en st) ∧ (r1 = 1 → CX (upF tp1_1 ((tr1_1 - 1).toNat) (Dv, (atv + lg1_1), env)) tr1_1 (takA st lg1_1) ∧ CI D at1_1 en (takA st lg1_1) ∧ tkS b (upF tp1_1 ((tr1_1 - 1).toNat) (Dv, (atv + lg1_1), env)) D ((((rv1_1)))) st01_1 en01_1 tr1_1 (srD st) (srE st)) from by refine ⟨hf1, htk9, hcm9, fun z => ?_, fun z => ?_⟩; (first | exact ⟨hCX1, hCI1⟩ | omega); (first | omega | (have hts := hts9.resolve_right (fun w => by omega); rw [← e_tv, ← hat9.1, ← hat9.2] at hts; rw [hf1] at hCX1; have ht0 : 0 < st.tn := (by omega); have hct := CX_tk (lg := lg1_1) hCX1 ht0 (by rw [← hf1]; exact e_tv) hts.2.2.2.1 ⟨by omega, by omega⟩; rw [← hf1] at hct; refine ⟨hct.1, CI_c hCI1 hct.2.1 hct.2.2, Or.inl ⟨hsp, hts.2.1, by rw [← hat9.1, ← hat9.2]; exact hts.2.2.1, ?_, ?_⟩⟩; (rw [upF_s, ← hat9.1, ← hat9.2]; exact hts.2.2.2.1); (rw [upF_s, ← hat9.1, ← hat9.2]; exact hts.2.2.2.2)) | (have hts := hts9.resolve_left (fun w => by omega); have ht0 : ¬ 0 < st.tn := (by omega); have hta := hta9.resolve_left (fun w => by omega); have hsd : srD st = st.inp := (by unfold srD; exact if_neg ht0); have hse : srE st = st.il := (by unfold srE; exact if_neg ht0); have hag := hts.2.2.2.1; rw [hsd, hse, ← hta.2.1, ← hta.2.2] at hag; have hct := CI_tk (lg := lg1_1) hCI1 ht0 hag ⟨by omega, by omega⟩; exact ⟨CX_c hCX1 hct.2.1 hct.2.2.1 hct.2.2.2, hct.1, hts9⟩)))
    · have e_r10 : r10 = b + 1 := by omega
      rw [e_r10]
      refine cvT_v (we := wMr dA b tr1_1 hg wk at1_1 en cm1_1 rg1_1 st01_1 en01_1 lg1_1 tR ngR scR lnR uR lu ru su qu pl ((((rv1_1)))) si D CR FR LF RF SF QF P []) (tl := tl0 dA b vs tp1_1) (va_runV (C := "MacroReckoner$Tape") (As := [.int (iI lg1_1)]) (rest := []) ⟨hx, hb, hml, hown, hts⟩ (cTa_take l dC dI dA (b + 1) (b + 2) 100 D at1_1 en lg1_1  H.size) (cwV 1 hts (gdV wt2_140 wt2_141 wt2_142 wt1_2 wt2_143) rfl rfl rfl ⟨rfl, by decide, by decide, by decide +kernel⟩ ⟨by decide, by decide⟩) (preV (q := ("MacroReckoner$Tape", TTa, 3)) hK hP hD hS hA XN_ok trivial [1, 2] rfl rfl 0 rfl rfl) rfl rfl hl.1 rfl (lv_room (Nat.le_of_ble_eq_true rfl)) dMr_takeToken_20 ⟨Nat.zero_le _, Nat.zero_le _⟩) hP hD hS hA [1, 2] [0, 3, 4, 5, 6, 7, 8, 9, 10, 11, 12, 13, 14, 15, 16, 17, 18, 19, 20, 21] rfl (fun v_ => wMr dA b tr1_1 hg wk ((at1_1 + lg1_1)) en cm1_1 rg1_1 st01_1 en01_1 lg1_1 tR ngR scR lnR uR lu ru su qu pl ((((rv1_1)))) si D CR FR LF RF SF QF P []) (fun _ => rfl) ((b, .inr (6, [.ref (b + 1), .ref (b + 3), .int (iI tr1_1), .ref (b + 4), .ref (b + 5), .int (iI hg), .ref (b + 6), .int (iI wk), .ref (b + 7), .ref (b + 11), .ref (b + 20)])) :: (b + 3, .inl (dA 5, 8, .inr (.inr (.inr (.inr (arR (tfA b))))))) :: (b + 4, .inr (3, [.int (iI cm1_1), .int (iI rg1_1), ((((rv1_1)))), .int (iI st01_1), .int (iI en01_1), .int (iI lg1_1)])) :: (b + 5, .inl (dA 4, 20, .inr (.inr (.inr (.inr (arR (sfA b si))))))) :: (b + 6, .inl (dA 4, 26, .inr (.inr (.inr (.inr (arR (rfA b))))))) :: (b + 7, .inr (4, [.int (iI tR), .ref (b + 8), .int (iI ngR), .int (iI scR), .ref (b + 10), .int (iI lnR)])) :: (b + 8, .inr (5, [.ref (b + 9), .int (iI uR)])) :: (b + 9, .inl (dA 0, 32, .inl (arI FR))) :: (b + 10, .inl (dA 1, 60, .inl (arI CR))) :: (b + 11, .inr (0, [.ref (b + 7), .ref (b + 12), .ref (b + 14), .ref (b + 16), .ref (b + 18)])) :: (b + 12, .inr (5, [.ref (b + 13), .int (iI lu)])) :: (b + 13, .inl (dA 0, 32, .inl (arI LF))) :: (b + 14, .inr (5, [.ref (b + 15), .int (iI ru)])) :: (b + 15, .inl (dA 0, 32, .inl (arI RF))) :: (b + 16, .inr (5, [.ref (b + 17), .int (iI su)])) :: (b + 17, .inl (dA 0, 32, .inl (arI SF))) :: (b + 18, .inr (5, [.ref (b + 19), .int (iI qu)])) :: (b + 19, .inl (dA 0, 32, .inl (arI QF))) :: (b + 20, .inr (1, [.ref (b + 21), .int (iI pl)])) :: (b + 21, .inl (dA 1, 200, .inl (arI P))) :: []) rfl (fun _ => rfl) [b, b + 1, b + 2, b + 3, b + 4, b + 5, b + 6, b + 7, b + 8, b + 9, b + 10, b + 11, b + 12, b + 13, b + 14, b + 15, b + 16, b + 17, b + 18, b + 19, b + 20, b + 21] rfl (fun _ => rfl) (fun _ => rfl) (fun u_ H locs hq20 hP hD hS => ?_)
      have hP : va_P (dC, dI) vwCl (wMr dA b tr1_1 hg wk ((at1_1 + lg1_1)) en cm1_1 rg1_1 st01_1 en01_1 lg1_1 tR ngR scR lnR uR lu ru su qu pl ((((rv1_1)))) si D CR FR LF RF SF QF P (tl0 dA b vs tp1_1)) H := hP
      have hD : va_D A (wMr dA b tr1_1 hg wk ((at1_1 + lg1_1)) en cm1_1 rg1_1 st01_1 en01_1 lg1_1 tR ngR scR lnR uR lu ru su qu pl ((((rv1_1)))) si D CR FR LF RF SF QF P (tl0 dA b vs tp1_1)) := hD
      have hq20 : True := hq20
      refine lv_iload_n hx hb dMr_takeToken_23 rfl (lv_at hl 0 rfl) ?_
      exact rt_z hx hb hr hlocks hK hS dMr_takeToken_24 (nrw_bool (by omega)) (tr1_1, cm1_1, rg1_1, (((rv1_1))), st01_1, en01_1, lg1_1, (at1_1 + lg1_1), tp1_1) hP hD (show tr1_1 = st.tn ∧ tkI st r1 cm1_1 lg1_1 rg1_1 ∧ (0 ≤ cm1_1 ∧ cm1_1 < 65536) ∧ (r1 = 0 → CX tp1_1 tr1_1 st ∧ CI D ((at1_1 + lg1_1)) en st) ∧ (r1 = 1 → CX tp1_1 tr1_1 (takA st lg1_1) ∧ CI D ((at1_1 + lg1_1)) en (takA st lg1_1) ∧ tkS b tp1_1 D ((((rv1_1)))) st01_1 en01_1 tr1_1 (srD st) (srE st)) from by refine ⟨hf1, htk9, hcm9, fun z => ?_, fun z => ?_⟩; (first | exact ⟨hCX1, hCI1⟩ | omega); (first | omega | (have hts := hts9.resolve_right (fun w => by omega); rw [← e_tv, ← hat9.1, ← hat9.2] at hts; rw [hf1] at hCX1; have ht0 : 0 < st.tn := (by omega); have hct := CX_tk (lg := lg1_1) hCX1 ht0 (by rw [← hf1]; exact e_tv) hts.2.2.2.1 ⟨by omega, by omega⟩; rw [← hf1] at hct; refine ⟨hct.1, CI_c hCI1 hct.2.1 hct.2.2, Or.inl ⟨hsp, hts.2.1, by rw [← hat9.1, ← hat9.2]; exact hts.2.2.1, ?_, ?_⟩⟩; (rw [upF_s, ← hat9.1, ← hat9.2]; exact hts.2.2.2.1); (rw [upF_s, ← hat9.1, ← hat9.2]; exact hts.2.2.2.2)) | (have hts := hts9.resolve_left (fun w => by omega); have ht0 : ¬ 0 < st.tn := (by omega); have hta := hta9.resolve_left (fun w => by omega); have hsd : srD st = st.inp := (by unfold srD; exact if_neg ht0); have hse : srE st = st.il := (by unfold srE; exact if_neg ht0); have hag := hts.2.2.2.1; rw [hsd, hse, ← hta.2.1, ← hta.2.2] at hag; have hct := CI_tk (lg := lg1_1) hCI1 ht0 hag ⟨by omega, by omega⟩; exact ⟨CX_c hCX1 hct.2.1 hct.2.2.1 hct.2.2.2, hct.1, hts9⟩)))

theorem dMr_whatIsLeft_0 : decode prog_1_method_16_code 0 = .ok (.aload_n 0, 1) := by decide +kernel
theorem dMr_whatIsLeft_1 : decode prog_1_method_16_code 1 = .ok (.invokevirtual 130, 3) := by decide +kernel
theorem dMr_whatIsLeft_4 : decode prog_1_method_16_code 4 = .ok (.ifCond .eq 5, 3) := by decide +kernel
theorem dMr_whatIsLeft_7 : decode prog_1_method_16_code 7 = .ok (.iconst 1, 1) := by decide +kernel
theorem dMr_whatIsLeft_8 : decode prog_1_method_16_code 8 = .ok (.ireturn, 1) := by decide +kernel
theorem dMr_whatIsLeft_9 : decode prog_1_method_16_code 9 = .ok (.aload_n 0, 1) := by decide +kernel
theorem dMr_whatIsLeft_10 : decode prog_1_method_16_code 10 = .ok (.getfield 14, 3) := by decide +kernel
theorem dMr_whatIsLeft_13 : decode prog_1_method_16_code 13 = .ok (.invokevirtual 119, 3) := by decide +kernel
theorem dMr_whatIsLeft_16 : decode prog_1_method_16_code 16 = .ok (.ifCond .eq 7, 3) := by decide +kernel
theorem dMr_whatIsLeft_19 : decode prog_1_method_16_code 19 = .ok (.iconst 0, 1) := by decide +kernel
theorem dMr_whatIsLeft_20 : decode prog_1_method_16_code 20 = .ok (.goto 4, 3) := by decide +kernel
theorem dMr_whatIsLeft_23 : decode prog_1_method_16_code 23 = .ok (.iconst 2, 1) := by decide +kernel
theorem dMr_whatIsLeft_24 : decode prog_1_method_16_code 24 = .ok (.ireturn, 1) := by decide +kernel
abbrev qMr_whatIsLeft (dC : Nat → ClassId) (dI : Nat → Nat → Nat) (dA : Nat → ClassId) (dS : Nat → Nat) (b : Nat) (tr : Int) (hg : Int) (wk : Int) (at_ : Int) (en : Int) (cm : Int) (rg : Int) (st0 : Int) (en0 : Int) (lg : Int) (tR : Int) (ngR : Int) (scR : Int) (lnR : Int) (uR : Int) (lu : Int) (ru : Int) (su : Int) (qu : Int) (pl : Int) (rv : Value) (si : Int → Nat) (D : Int → Int) (CR : Int → Int) (FR : Int → Int) (LF : Int → Int) (RF : Int → Int) (SF : Int → Int) (QF : Int → Int) (P : Int → Int) (vs : Nat → VS) (tp : Nat → TS) (st : AS) (A : Nat → Prop) : Array Value → State → Outcome → State → Prop := QI (dC, dI) vwCl (tyA dA) (fun (r : Int) (v_ : Int × Int × Int × Value × Int × Int × Int × Int × (Nat → TS)) => v_.1 = st.tn ∧ CX v_.2.2.2.2.2.2.2.2 v_.1 st ∧ CI D v_.2.2.2.2.2.2.2.1 en st ∧ r = ansA (0, st) ∧ 0 ≤ v_.2.1 ∧ v_.2.1 < 65536) (fun (v_ : Int × Int × Int × Value × Int × Int × Int × Int × (Nat → TS)) => wMr dA b v_.1 hg wk v_.2.2.2.2.2.2.2.1 en v_.2.1 v_.2.2.1 v_.2.2.2.2.1 v_.2.2.2.2.2.1 v_.2.2.2.2.2.2.1 tR ngR scR lnR uR lu ru su qu pl v_.2.2.2.1 si D CR FR LF RF SF QF P (tl0 dA b vs v_.2.2.2.2.2.2.2.2)) A
abbrev rmMr_whatIsLeft : Room := { frames := 5, cells := 0, slots := 0, locals := 106 }
set_option maxRecDepth 100000 in
set_option maxHeartbeats 1000000 in
theorem cMr_whatIsLeft (l : Launch) (dC : Nat → ClassId) (dI : Nat → Nat → Nat) (dA : Nat → ClassId) (dS : Nat → Nat) (b : Nat) (tr : Int) (hg : Int) (wk : Int) (at_ : Int) (en : Int) (cm : Int) (rg : Int) (st0 : Int) (en0 : Int) (lg : Int) (tR : Int) (ngR : Int) (scR : Int) (lnR : Int) (uR : Int) (lu : Int) (ru : Int) (su : Int) (qu : Int) (pl : Int) (rv : Value) (si : Int → Nat) (D : Int → Int) (CR : Int → Int) (FR : Int → Int) (LF : Int → Int) (RF : Int → Int) (SF : Int → Int) (QF : Int → Int) (P : Int → Int) (vs : Nat → VS) (tp : Nat → TS) (st : AS) (hCX : CX tp tr st) (hCI : CI D at_ en st) (hcm : 0 ≤ cm ∧ cm < 65536) (sz : Nat) : Met l yMr_whatIsLeft wsMr_whatIsLeft rmMr_whatIsLeft (PC (dC, dI) vwCl (tyA dA) (XC dS) [.ref b] (wMr dA b tr hg wk at_ en cm rg st0 en0 lg tR ngR scR lnR uR lu ru su qu pl rv si D CR FR LF RF SF QF P (tl0 dA b vs tp)) sz) (qMr_whatIsLeft dC dI dA dS b tr hg wk at_ en cm rg st0 en0 lg tR ngR scR lnR uR lu ru su qu pl rv si D CR FR LF RF SF QF P vs tp st (va_A (wMr dA b tr hg wk at_ en cm rg st0 en0 lg tR ngR scR lnR uR lu ru su qu pl rv si D CR FR LF RF SF QF P (tl0 dA b vs tp)) sz)) 0 0 (va_A (wMr dA b tr hg wk at_ en cm rg st0 en0 lg tR ngR scR lnR uR lu ru su qu pl rv si D CR FR LF RF SF QF P (tl0 dA b vs tp)) sz) := by
  refine met_of (cc := prog_1_method_16_code) (maxL := 1) (ret := (some .int)) (Qc := qMr_whatIsLeft dC dI dA dS b tr hg wk at_ en cm rg st0 en0 lg tR ngR scR lnR uR lu ru su qu pl rv si D CR FR LF RF SF QF P vs tp st) (XC_ok dS) (by decide) rfl (Nat.le_of_ble_eq_true rfl) ?_
  intro p e s m below meth c ls A hx hb hr hml hown hts hlocks hnm hK hP hD hA hX hS hl
  have hl : lv_has ls 1 [(0, .ref b)] := hl
  have hown : s.vm.findClass "MacroReckoner" = some m.cls := hown
  obtain ⟨H, hH⟩ : ∃ H : Heap, H = s.heap := ⟨_, rfl⟩
  obtain ⟨locs, hlo⟩ : ∃ L : List Loc, L = [] := ⟨_, rfl⟩
  have hP : va_P (dC, dI) vwCl (wMr dA b tr hg wk at_ en cm rg st0 en0 lg tR ngR scR lnR uR lu ru su qu pl rv si D CR FR LF RF SF QF P (tl0 dA b vs tp)) H := hH ▸ hP
  have hS : va_S A s.heap H locs := by rw [hH, hlo]; exact hS
  suffices hgo : W p l e rmMr_whatIsLeft s m [.ref b].toArray below meth c H locs 0 0 (MQ below (qMr_whatIsLeft dC dI dA dS b tr hg wk at_ en cm rg st0 en0 lg tR ngR scR lnR uR lu ru su qu pl rv si D CR FR LF RF SF QF P vs tp st A) [.ref b].toArray s 0 0 A) (F0 m 0 ls []) by rw [hH, hlo] at hgo; exact hgo
  clear hH hlo
  refine lv_aload_n hx hb dMr_whatIsLeft_0 rfl (lv_at hl 0 rfl) ?_
  refine cvA_i (va_runV (C := "MacroReckoner") (As := []) (rest := []) ⟨hx, hb, hml, hown, hts⟩ (cMr_findToken l dC dI dA dS b tr hg wk at_ en cm rg st0 en0 lg tR ngR scR lnR uR lu ru su qu pl rv si D CR FR LF RF SF QF P vs tp st (by exact hCX) (by exact hCI) (by exact hcm) H.size) (cwV 0 hts (gdV wt2_102 wt2_104 ws1_3 wt1_1 wt2_105) rfl rfl rfl ⟨rfl, by decide, by decide, by decide +kernel⟩ ⟨by decide, by decide⟩) (preVA (q := ("MacroReckoner", TMr, 11)) hK hP hD hS hA (XC_ok dS) hX 0 rfl rfl) rfl rfl hl.1 rfl (lv_room (Nat.le_of_ble_eq_true rfl)) dMr_whatIsLeft_1 ⟨Nat.zero_le _, Nat.zero_le _⟩) hD hS hA (fun r1 u_ H locs hq1 hP hD hS => ?_)
  obtain ⟨tr1_1, cm1_1, rg1_1, rv1_1, st01_1, en01_1, lg1_1, at1_1, tp1_1⟩ := u_
  have hP : va_P (dC, dI) vwCl (wMr dA b tr1_1 hg wk at1_1 en cm1_1 rg1_1 st01_1 en01_1 lg1_1 tR ngR scR lnR uR lu ru su qu pl ((rv1_1)) si D CR FR LF RF SF QF P (tl0 dA b vs tp1_1)) H := hP
  have hD : va_D A (wMr dA b tr1_1 hg wk at1_1 en cm1_1 rg1_1 st01_1 en01_1 lg1_1 tR ngR scR lnR uR lu ru su qu pl ((rv1_1)) si D CR FR LF RF SF QF P (tl0 dA b vs tp1_1)) := hD
  have hq1 : tr1_1 = st.tn ∧ CX tp1_1 tr1_1 st ∧ CI D at1_1 en st ∧ tkI st r1 cm1_1 lg1_1 rg1_1 ∧ tkS b tp1_1 D rv1_1 st01_1 en01_1 tr1_1 (srD st) (srE st) ∧ ((0 < tr1_1 ∧ tp1_1 (tr1_1 - 1).toNat = ((tp1_1 (tr1_1 - 1).toNat).1, st01_1, en01_1)) ∨ (tr1_1 ≤ 0 ∧ at1_1 = st01_1 ∧ en = en01_1)) ∧ 0 ≤ cm1_1 ∧ cm1_1 < 65536 := hq1
  obtain ⟨hf1, hCX1, hCI1, htk9, hts9, hta9, hcm9⟩ := hq1
  have hr1 : r1 = 0 ∨ r1 = 1 := by rcases htk9 with ⟨z, -⟩ | ⟨z, -⟩ <;> omega
  have hii := CI_il hCI1
  refine iv_if_eq (tgt := 9) hx hb dMr_whatIsLeft_4 (by decide) ⟨by omega, by omega⟩ (fun hc4 => ?_) (fun hc4 => ?_)
  · refine lv_aload_n hx hb dMr_whatIsLeft_9 rfl (lv_at hl 0 rfl) ?_
    refine va_get (D := (dC, dI)) (ci := 6) (v := .ref (b + 1)) (C := "MacroReckoner") (T := TMr) (N := 11) hx hb hts inMr hown hK hP 0 rfl rfl 0 (by decide) (hts _ wt1_173) (fun _ h9 => h9) rfl dMr_whatIsLeft_10 ?_
    refine cvT_i (we := wMr dA b tr1_1 hg wk at1_1 en cm1_1 rg1_1 st01_1 en01_1 lg1_1 tR ngR scR lnR uR lu ru su qu pl ((rv1_1)) si D CR FR LF RF SF QF P []) (tl := tl0 dA b vs tp1_1) (va_runV (C := "MacroReckoner$Tape") (As := []) (rest := []) ⟨hx, hb, hml, hown, hts⟩ (cTa_isBlank l dC dI dA (b + 1) (b + 2) 100 D at1_1 en (by exact hCI1.1) H.size) (cwV 0 hts (gdV wt2_6 wt2_7 wt2_8 wt1_2 wt2_9) rfl rfl rfl ⟨rfl, by decide, by decide, by decide +kernel⟩ ⟨by decide, by decide⟩) (preV (q := ("MacroReckoner$Tape", TTa, 3)) hK hP hD hS hA XN_ok trivial [1, 2] rfl rfl 0 rfl rfl) rfl rfl hl.1 rfl (lv_room (Nat.le_of_ble_eq_true rfl)) dMr_whatIsLeft_13 ⟨Nat.zero_le _, Nat.zero_le _⟩) hP hD hS hA [1, 2] [0, 3, 4, 5, 6, 7, 8, 9, 10, 11, 12, 13, 14, 15, 16, 17, 18, 19, 20, 21] rfl (fun v_ => wMr dA b tr1_1 hg wk at1_1 en cm1_1 rg1_1 st01_1 en01_1 lg1_1 tR ngR scR lnR uR lu ru su qu pl ((rv1_1)) si D CR FR LF RF SF QF P []) (fun _ => rfl) ((b, .inr (6, [.ref (b + 1), .ref (b + 3), .int (iI tr1_1), .ref (b + 4), .ref (b + 5), .int (iI hg), .ref (b + 6), .int (iI wk), .ref (b + 7), .ref (b + 11), .ref (b + 20)])) :: (b + 3, .inl (dA 5, 8, .inr (.inr (.inr (.inr (arR (tfA b))))))) :: (b + 4, .inr (3, [.int (iI cm1_1), .int (iI rg1_1), ((rv1_1)), .int (iI st01_1), .int (iI en01_1), .int (iI lg1_1)])) :: (b + 5, .inl (dA 4, 20, .inr (.inr (.inr (.inr (arR (sfA b si))))))) :: (b + 6, .inl (dA 4, 26, .inr (.inr (.inr (.inr (arR (rfA b))))))) :: (b + 7, .inr (4, [.int (iI tR), .ref (b + 8), .int (iI ngR), .int (iI scR), .ref (b + 10), .int (iI lnR)])) :: (b + 8, .inr (5, [.ref (b + 9), .int (iI uR)])) :: (b + 9, .inl (dA 0, 32, .inl (arI FR))) :: (b + 10, .inl (dA 1, 60, .inl (arI CR))) :: (b + 11, .inr (0, [.ref (b + 7), .ref (b + 12), .ref (b + 14), .ref (b + 16), .ref (b + 18)])) :: (b + 12, .inr (5, [.ref (b + 13), .int (iI lu)])) :: (b + 13, .inl (dA 0, 32, .inl (arI LF))) :: (b + 14, .inr (5, [.ref (b + 15), .int (iI ru)])) :: (b + 15, .inl (dA 0, 32, .inl (arI RF))) :: (b + 16, .inr (5, [.ref (b + 17), .int (iI su)])) :: (b + 17, .inl (dA 0, 32, .inl (arI SF))) :: (b + 18, .inr (5, [.ref (b + 19), .int (iI qu)])) :: (b + 19, .inl (dA 0, 32, .inl (arI QF))) :: (b + 20, .inr (1, [.ref (b + 21), .int (iI pl)])) :: (b + 21, .inl (dA 1, 200, .inl (arI P))) :: []) rfl (fun _ => rfl) [b, b + 1, b + 2, b + 3, b + 4, b + 5, b + 6, b + 7, b + 8, b + 9, b + 10, b + 11, b + 12, b + 13, b + 14, b + 15, b + 16, b + 17, b + 18, b + 19, b + 20, b + 21] rfl (fun _ => rfl) (fun _ => rfl) (fun r13 u_ H locs hq13 hP hD hS => ?_)
    have hP : va_P (dC, dI) vwCl (wMr dA b tr1_1 hg wk at1_1 en cm1_1 rg1_1 st01_1 en01_1 lg1_1 tR ngR scR lnR uR lu ru su qu pl ((rv1_1)) si D CR FR LF RF SF QF P (tl0 dA b vs tp1_1)) H := hP
    have hD : va_D A (wMr dA b tr1_1 hg wk at1_1 en cm1_1 rg1_1 st01_1 en01_1 lg1_1 tR ngR scR lnR uR lu ru su qu pl ((rv1_1)) si D CR FR LF RF SF QF P (tl0 dA b vs tp1_1)) := hD
    have hq13 : (r13 = 1 ∧ ∀ j, at1_1 ≤ j → j < en → D j = 32) ∨ (r13 = 0 ∧ ∃ j, at1_1 ≤ j ∧ j < en ∧ D j ≠ 32) := hq13
    have hbl : (r13 = 1 ∧ st.il = 0) ∨ (r13 = 0 ∧ 0 < st.il) := by rcases hq13 with ⟨z1, z2⟩ | ⟨z1, j, z2, z3, z4⟩; exact Or.inl ⟨z1, hii.1.mp z2⟩; exact Or.inr ⟨z1, by apply Decidable.byContradiction; intro w; exact z4 (hii.1.mpr (by omega) j z2 z3)⟩
    clear hq13
    clear hq13
    refine iv_if_eq (tgt := 23) hx hb dMr_whatIsLeft_16 (by decide) ⟨by omega, by omega⟩ (fun hc16 => ?_) (fun hc16 => ?_)
    · refine lv_iconst (v := iI 2) hx hb dMr_whatIsLeft_23 rfl ?_
      exact rt_i hx hb hr hlocks hK hS dMr_whatIsLeft_24 (tr1_1, cm1_1, rg1_1, (rv1_1), st01_1, en01_1, lg1_1, at1_1, tp1_1) hP hD (show tr1_1 = st.tn ∧ CX tp1_1 tr1_1 st ∧ CI D at1_1 en st ∧ 2 = ansA (0, st) ∧ 0 ≤ cm1_1 ∧ cm1_1 < 65536 from by have h := (htk9.resolve_right (fun z => by omega)).2; exact ⟨hf1, hCX1, hCI1, by first | exact (ans_0.2.1 h (by omega)).symm | exact (ans_0.2.2 h (by omega)).symm, hcm9⟩)
    · refine lv_iconst (v := iI 0) hx hb dMr_whatIsLeft_19 rfl ?_
      refine lv_goto (tgt := 24) hx hb dMr_whatIsLeft_20 (by decide) ?_
      exact rt_i hx hb hr hlocks hK hS dMr_whatIsLeft_24 (tr1_1, cm1_1, rg1_1, (rv1_1), st01_1, en01_1, lg1_1, at1_1, tp1_1) hP hD (show tr1_1 = st.tn ∧ CX tp1_1 tr1_1 st ∧ CI D at1_1 en st ∧ 0 = ansA (0, st) ∧ 0 ≤ cm1_1 ∧ cm1_1 < 65536 from by have h := (htk9.resolve_right (fun z => by omega)).2; exact ⟨hf1, hCX1, hCI1, by first | exact (ans_0.2.1 h (by omega)).symm | exact (ans_0.2.2 h (by omega)).symm, hcm9⟩)
  · refine lv_iconst (v := iI 1) hx hb dMr_whatIsLeft_7 rfl ?_
    exact rt_i hx hb hr hlocks hK hS dMr_whatIsLeft_8 (tr1_1, cm1_1, rg1_1, (rv1_1), st01_1, en01_1, lg1_1, at1_1, tp1_1) hP hD (show tr1_1 = st.tn ∧ CX tp1_1 tr1_1 st ∧ CI D at1_1 en st ∧ 1 = ansA (0, st) ∧ 0 ≤ cm1_1 ∧ cm1_1 < 65536 from by have h := (htk9.resolve_left (fun z => by omega)).2.1; exact ⟨hf1, hCX1, hCI1, (ans_0.1 h).symm, hcm9⟩)
