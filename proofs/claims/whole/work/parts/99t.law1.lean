abbrev yLa_run : MethodName := ⟨"MacroReckonerLaw", "run", "(LMacroReckoner;I[J)I"⟩
abbrev wsLa_run : List Cond := Cond.codeWith yLa_run method_3_code 4 (some .int) [(0, 9, 12, 13)] :: wg
theorem dLa_run_0 : decode method_3_code 0 = .ok (.aload_n 2, 1) := by decide +kernel
theorem dLa_run_1 : decode method_3_code 1 = .ok (.iconst 0, 1) := by decide +kernel
theorem dLa_run_2 : decode method_3_code 2 = .ok (.aload_n 0, 1) := by decide +kernel
theorem dLa_run_3 : decode method_3_code 3 = .ok (.iload_n 1, 1) := by decide +kernel
theorem dLa_run_4 : decode method_3_code 4 = .ok (.invokevirtual 7, 3) := by decide +kernel
theorem dLa_run_7 : decode method_3_code 7 = .ok (.i2l, 1) := by decide +kernel
theorem dLa_run_8 : decode method_3_code 8 = .ok (.lastore, 1) := by decide +kernel
theorem dLa_run_9 : decode method_3_code 9 = .ok (.goto 6, 3) := by decide +kernel
theorem dLa_run_12 : decode method_3_code 12 = .ok (.astore_n 3, 1) := by decide +kernel
theorem dLa_run_13 : decode method_3_code 13 = .ok (.iconst 1, 1) := by decide +kernel
theorem dLa_run_14 : decode method_3_code 14 = .ok (.ireturn, 1) := by decide +kernel
theorem dLa_run_15 : decode method_3_code 15 = .ok (.iconst 0, 1) := by decide +kernel
theorem dLa_run_16 : decode method_3_code 16 = .ok (.ireturn, 1) := by decide +kernel
abbrev yLa_isText : MethodName := ⟨"MacroReckonerLaw", "isText", "(LMacroReckoner;C[J)I"⟩
abbrev wsLa_isText : List Cond := Cond.codeWith yLa_isText method_4_code 4 (some .int) [(0, 16, 19, 13)] :: wg
theorem dLa_isText_0 : decode method_4_code 0 = .ok (.aload_n 2, 1) := by decide +kernel
theorem dLa_isText_1 : decode method_4_code 1 = .ok (.iconst 0, 1) := by decide +kernel
theorem dLa_isText_2 : decode method_4_code 2 = .ok (.aload_n 0, 1) := by decide +kernel
theorem dLa_isText_3 : decode method_4_code 3 = .ok (.iload_n 1, 1) := by decide +kernel
theorem dLa_isText_4 : decode method_4_code 4 = .ok (.invokevirtual 15, 3) := by decide +kernel
theorem dLa_isText_7 : decode method_4_code 7 = .ok (.ifCond .eq 7, 3) := by decide +kernel
theorem dLa_isText_10 : decode method_4_code 10 = .ok (.lconst 1, 1) := by decide +kernel
theorem dLa_isText_11 : decode method_4_code 11 = .ok (.goto 4, 3) := by decide +kernel
theorem dLa_isText_14 : decode method_4_code 14 = .ok (.lconst 0, 1) := by decide +kernel
theorem dLa_isText_15 : decode method_4_code 15 = .ok (.lastore, 1) := by decide +kernel
theorem dLa_isText_16 : decode method_4_code 16 = .ok (.goto 6, 3) := by decide +kernel
theorem dLa_isText_19 : decode method_4_code 19 = .ok (.astore_n 3, 1) := by decide +kernel
theorem dLa_isText_20 : decode method_4_code 20 = .ok (.iconst 1, 1) := by decide +kernel
theorem dLa_isText_21 : decode method_4_code 21 = .ok (.ireturn, 1) := by decide +kernel
theorem dLa_isText_22 : decode method_4_code 22 = .ok (.iconst 0, 1) := by decide +kernel
theorem dLa_isText_23 : decode method_4_code 23 = .ok (.ireturn, 1) := by decide +kernel
abbrev rmLa_run_g : Room := { frames := 8, cells := 0, slots := 0, locals := 240 }
set_option maxRecDepth 100000 in
set_option maxHeartbeats 1000000 in
theorem pLa_run_g (l : Launch) (dC : Nat → ClassId) (dI : Nat → Nat → Nat) (dA : Nat → ClassId) (dS ad : Nat → Nat) (b o : Nat) (n0 : Int) (f : Nat → Int64) (st : AS) (w : va_W) (hw : CW dA b st w) (hn0 : 1 ≤ n0 ∧ n0 ≤ 100) (sz : Nat) : Met l yLa_run wsLa_run rmLa_run_g (PC (dC, dI) vwCl (tyA dA) (XM dS ad) [.ref b, .int (iI n0), .ref o] (ocl dA o f :: w) sz) (QI (dC, dI) vwCl (tyA dA) (fun (r : Int) (w1 : va_W) => r = 0 ∧ ∃ (f1 : Nat → Int64) (w2 : va_W), w1 = ocl dA o f1 :: w2 ∧ f1 0 = (iI (ansA (lopA (strA st) n0.toNat))).toInt64 ∧ CW dA b (lopA (strA st) n0.toNat).2 w2) (fun w1 => w1) (va_A (ocl dA o f :: w) sz)) 0 0 (va_A (ocl dA o f :: w) sz) := by
  refine metW_of (cc := method_3_code) (maxL := 4) (ret := (some .int)) (hh := [(0, 9, 12, 13)]) (X := (XM dS ad)) (ws := (ocl dA o f :: w)) (Qc := fun A => QI (dC, dI) vwCl (tyA dA) (fun (r : Int) (w1 : va_W) => r = 0 ∧ ∃ (f1 : Nat → Int64) (w2 : va_W), w1 = ocl dA o f1 :: w2 ∧ f1 0 = (iI (ansA (lopA (strA st) n0.toNat))).toInt64 ∧ CW dA b (lopA (strA st) n0.toNat).2 w2) (fun w1 => w1) A) (by decide) rfl (Nat.le_of_ble_eq_true rfl) ?_
  intro p e s m below meth c ls A hx hb hr hml hown hts hlocks htab hK hP hD hA hX hS hl
  have hl : lv_has ls 4 [(0, .ref b), (1, .int (iI n0)), (2, .ref o)] := hl
  have hown : s.vm.findClass "MacroReckonerLaw" = some m.cls := hown
  obtain ⟨H, hH⟩ : ∃ H : Heap, H = s.heap := ⟨_, rfl⟩
  obtain ⟨locs, hlo⟩ : ∃ L : List Loc, L = [] := ⟨_, rfl⟩
  have hP : va_P (dC, dI) vwCl (ocl dA o f :: w) H := hH ▸ hP
  have hS : va_S A s.heap H locs := by rw [hH, hlo]; exact hS
  suffices hgo : W p l e rmLa_run_g s m [.ref b, .int (iI n0), .ref o].toArray below meth c H locs 0 0 (MQ below (QI (dC, dI) vwCl (tyA dA) (fun (r : Int) (w1 : va_W) => r = 0 ∧ ∃ (f1 : Nat → Int64) (w2 : va_W), w1 = ocl dA o f1 :: w2 ∧ f1 0 = (iI (ansA (lopA (strA st) n0.toNat))).toInt64 ∧ CW dA b (lopA (strA st) n0.toNat).2 w2) (fun w1 => w1) A) [.ref b, .int (iI n0), .ref o].toArray s 0 0 A) (F0 m 0 ls []) by rw [hH, hlo] at hgo; exact hgo
  clear hH hlo
  obtain ⟨fs, hfs⟩ := CW_hd hw
  refine lv_aload_n hx hb dLa_run_0 rfl (lv_at hl 2 rfl) ?_
  refine lv_iconst (v := iI 0) hx hb dLa_run_1 rfl ?_
  refine lv_aload_n hx hb dLa_run_2 rfl (lv_at hl 0 rfl) ?_
  refine lv_iload_n hx hb dLa_run_3 rfl (lv_at hl 1 rfl) ?_
  refine cvE_i (wr := [ocl dA o f]) (wc := w) (va_runV (C := "MacroReckoner") (As := [.int (iI n0)]) (rest := [.int (iI 0), .ref o]) ⟨hx, hb, hml, hown, hts⟩ (pMr_run l dC dI dA dS b ad n0 st w hw hn0 H.size) (cwV 1 hts (gdV wt2_33 wt2_34 wt2_35 wt1_1 wt2_36) rfl rfl rfl ⟨rfl, by decide, by decide, by decide +kernel⟩ ⟨by decide, by decide⟩) (preVE (wr := [ocl dA o f]) (q := ("MacroReckoner", TMr, 11)) hK hP hD hS hA (XM_ok dS ad) hX hfs rfl) rfl rfl hl.1 rfl (lv_room (Nat.le_of_ble_eq_true rfl)) dLa_run_4 ⟨Nat.zero_le _, Nat.zero_le _⟩) hP hD hS hA (fun z w1 H locs hp hP hD hS => ?_)
  refine lv_i2l (v := (iI z).toInt64) hx hb dLa_run_7 rfl ?_
  refine va_last (x := (iI z).toInt64) (f := f) (n := 1) (ws := ocl dA o f :: w1) hx hb hK hP hD hS 0 3 rfl rfl (iI_vp (z := 0) (n := 1) (by decide) (by decide) (by decide)) dLa_run_8 (fun H locs hP hD hS => ?_)
  refine lv_goto (tgt := 15) hx hb dLa_run_9 (by decide) ?_
  refine lv_iconst (v := iI 0) hx hb dLa_run_15 rfl ?_
  have hP : va_P (dC, dI) vwCl (ocl dA o (vp_updL f (iI 0).toNatClampNeg ((iI z).toInt64)) :: w1) H := hP
  have hD : va_D A (ocl dA o (vp_updL f (iI 0).toNatClampNeg ((iI z).toInt64)) :: w1) := hD
  exact rt_i hx hb hr hlocks hK hS dLa_run_16 (ocl dA o (vp_updL f (iI 0).toNatClampNeg ((iI z).toInt64)) :: w1) hP hD ⟨rfl, _, w1, rfl, by rw [upL0, hp.1], hp.2⟩
abbrev rmLa_run_b : Room := { frames := 8, cells := 1, slots := 6, locals := 240 }
set_option maxRecDepth 100000 in
set_option maxHeartbeats 1000000 in
theorem pLa_run_b (l : Launch) (hfl : ∀ e : Env, l.admits e → e.platform.stackTraces = false) (dC : Nat → ClassId) (dI : Nat → Nat → Nat) (dA : Nat → ClassId) (dS ad : Nat → Nat) (b o : Nat) (n0 : Int) (f : Nat → Int64) (st : AS) (w : va_W) (hw : CW dA b st w) (hn0 : r32 n0) (hbad : n0 < 1 ∨ 100 < n0) (sz : Nat) : Met l yLa_run wsLa_run rmLa_run_b (PC (dC, dI) vwCl (tyA dA) XE [.ref b, .int (iI n0), .ref o] (ocl dA o f :: w) sz) (QI (dC, dI) vwCl (tyA dA) (fun (r : Int) (w1 : va_W) => r = 1 ∧ w1 = ocl dA o f :: w) (fun w1 => w1) (va_A (ocl dA o f :: w) sz)) 1 6 (va_A (ocl dA o f :: w) sz) := by
  refine metW_of (cc := method_3_code) (maxL := 4) (ret := (some .int)) (hh := [(0, 9, 12, 13)]) (X := XE) (ws := (ocl dA o f :: w)) (Qc := fun A => QI (dC, dI) vwCl (tyA dA) (fun (r : Int) (w1 : va_W) => r = 1 ∧ w1 = ocl dA o f :: w) (fun w1 => w1) A) (by decide) rfl (Nat.le_of_ble_eq_true rfl) ?_
  intro p e s m below meth c ls A hx hb hr hml hown hts hlocks htab hK hP hD hA hX hS hl
  have hl : lv_has ls 4 [(0, .ref b), (1, .int (iI n0)), (2, .ref o)] := hl
  have hown : s.vm.findClass "MacroReckonerLaw" = some m.cls := hown
  obtain ⟨H, hH⟩ : ∃ H : Heap, H = s.heap := ⟨_, rfl⟩
  obtain ⟨locs, hlo⟩ : ∃ L : List Loc, L = [] := ⟨_, rfl⟩
  have hP : va_P (dC, dI) vwCl (ocl dA o f :: w) H := hH ▸ hP
  have hS : va_S A s.heap H locs := by rw [hH, hlo]; exact hS
  suffices hgo : W p l e rmLa_run_b s m [.ref b, .int (iI n0), .ref o].toArray below meth c H locs 0 0 (MQ below (QI (dC, dI) vwCl (tyA dA) (fun (r : Int) (w1 : va_W) => r = 1 ∧ w1 = ocl dA o f :: w) (fun w1 => w1) A) [.ref b, .int (iI n0), .ref o].toArray s 1 6 A) (F0 m 0 ls []) by rw [hH, hlo] at hgo; exact hgo
  clear hH hlo
  obtain ⟨fs, hfs⟩ := CW_hd hw
  refine lv_aload_n hx hb dLa_run_0 rfl (lv_at hl 2 rfl) ?_
  refine lv_iconst (v := iI 0) hx hb dLa_run_1 rfl ?_
  refine lv_aload_n hx hb dLa_run_2 rfl (lv_at hl 0 rfl) ?_
  refine lv_iload_n hx hb dLa_run_3 rfl (lv_at hl 1 rfl) ?_
  refine va_thr (As := [.int (iI n0)]) (rest := [.int (iI 0), .ref o]) (C := "MacroReckoner") (p0 := 0) (p1 := 9) (ph := 12) (ct := 13) hx hb hml hown (tMr_run l hfl b n0 hn0 hbad) (rm := rmTMr_run) (cwV 1 hts (gdV wt2_33 wt2_34 wt2_35 wt1_1 wt2_36) rfl rfl rfl ⟨rfl, by decide, by decide, by decide +kernel⟩ ⟨by decide, by decide⟩) (va_recv (q0 := 1) (q := ("MacroReckoner", TMr, 11)) hK hP rfl hfs) hX hS hA htab (by decide) (by decide) (hts _ wt2_32) (va_Nw.use rfl hX.2.2.2.2.2) rfl hl.1 (Nat.le_of_ble_eq_true rfl) dLa_run_4 ⟨by show _ ≤ 1; omega, by show _ ≤ 6; omega⟩ (fun H x hz hk => ?_)
  have hS := thr_S hS hz hk
  have hP := thr_P hP hk
  refine lv_astore_n (lv' := [(3, .ref x), (0, .ref b), (1, .int (iI n0)), (2, .ref o)]) hx hb dLa_run_12 rfl hl (by decide) rfl (fun ls hl => ?_)
  refine lv_iconst (v := iI 1) hx hb dLa_run_13 rfl ?_
  exact rt_i hx hb hr hlocks hK hS dLa_run_14 (ocl dA o f :: w) hP hD ⟨rfl, rfl⟩
abbrev rmLa_isText_g : Room := { frames := 8, cells := 0, slots := 0, locals := 240 }
set_option maxRecDepth 100000 in
set_option maxHeartbeats 1000000 in
theorem pLa_isText_g (l : Launch) (dC : Nat → ClassId) (dI : Nat → Nat → Nat) (dA : Nat → ClassId) (dS ad : Nat → Nat) (b o : Nat) (ch : Int) (f : Nat → Int64) (st : AS) (w : va_W) (hw : CW dA b st w) (hch : 97 ≤ ch ∧ ch ≤ 122) (sz : Nat) : Met l yLa_isText wsLa_isText rmLa_isText_g (PC (dC, dI) vwCl (tyA dA) (XM dS ad) [.ref b, .int (iI ch), .ref o] (ocl dA o f :: w) sz) (QI (dC, dI) vwCl (tyA dA) (fun (r : Int) (w1 : va_W) => r = 0 ∧ ∃ (f1 : Nat → Int64) (w2 : va_W), w1 = ocl dA o f1 :: w2 ∧ f1 0 = iL (st.reg (ch - 97)).t ∧ CW dA b st w2) (fun w1 => w1) (va_A (ocl dA o f :: w) sz)) 0 0 (va_A (ocl dA o f :: w) sz) := by
  refine metW_of (cc := method_4_code) (maxL := 4) (ret := (some .int)) (hh := [(0, 16, 19, 13)]) (X := (XM dS ad)) (ws := (ocl dA o f :: w)) (Qc := fun A => QI (dC, dI) vwCl (tyA dA) (fun (r : Int) (w1 : va_W) => r = 0 ∧ ∃ (f1 : Nat → Int64) (w2 : va_W), w1 = ocl dA o f1 :: w2 ∧ f1 0 = iL (st.reg (ch - 97)).t ∧ CW dA b st w2) (fun w1 => w1) A) (by decide) rfl (Nat.le_of_ble_eq_true rfl) ?_
  intro p e s m below meth c ls A hx hb hr hml hown hts hlocks htab hK hP hD hA hX hS hl
  have hl : lv_has ls 4 [(0, .ref b), (1, .int (iI ch)), (2, .ref o)] := hl
  have hown : s.vm.findClass "MacroReckonerLaw" = some m.cls := hown
  obtain ⟨H, hH⟩ : ∃ H : Heap, H = s.heap := ⟨_, rfl⟩
  obtain ⟨locs, hlo⟩ : ∃ L : List Loc, L = [] := ⟨_, rfl⟩
  have hP : va_P (dC, dI) vwCl (ocl dA o f :: w) H := hH ▸ hP
  have hS : va_S A s.heap H locs := by rw [hH, hlo]; exact hS
  suffices hgo : W p l e rmLa_isText_g s m [.ref b, .int (iI ch), .ref o].toArray below meth c H locs 0 0 (MQ below (QI (dC, dI) vwCl (tyA dA) (fun (r : Int) (w1 : va_W) => r = 0 ∧ ∃ (f1 : Nat → Int64) (w2 : va_W), w1 = ocl dA o f1 :: w2 ∧ f1 0 = iL (st.reg (ch - 97)).t ∧ CW dA b st w2) (fun w1 => w1) A) [.ref b, .int (iI ch), .ref o].toArray s 0 0 A) (F0 m 0 ls []) by rw [hH, hlo] at hgo; exact hgo
  clear hH hlo
  obtain ⟨fs, hfs⟩ := CW_hd hw
  refine lv_aload_n hx hb dLa_isText_0 rfl (lv_at hl 2 rfl) ?_
  refine lv_iconst (v := iI 0) hx hb dLa_isText_1 rfl ?_
  refine lv_aload_n hx hb dLa_isText_2 rfl (lv_at hl 0 rfl) ?_
  refine lv_iload_n hx hb dLa_isText_3 rfl (lv_at hl 1 rfl) ?_
  refine cvE_i (wr := [ocl dA o f]) (wc := w) (va_runV (C := "MacroReckoner") (As := [.int (iI ch)]) (rest := [.int (iI 0), .ref o]) ⟨hx, hb, hml, hown, hts⟩ (pMr_isText l dC dI dA dS b ad ch st w hw hch H.size) (cwV 1 hts (gdV wt4_48 wt4_49 wt4_50 wt1_1 wt4_51) rfl rfl rfl ⟨rfl, by decide, by decide, by decide +kernel⟩ ⟨by decide, by decide⟩) (preVE (wr := [ocl dA o f]) (q := ("MacroReckoner", TMr, 11)) hK hP hD hS hA (XM_ok dS ad) hX hfs rfl) rfl rfl hl.1 rfl (lv_room (Nat.le_of_ble_eq_true rfl)) dLa_isText_4 ⟨Nat.zero_le _, Nat.zero_le _⟩) hP hD hS hA (fun z w1 H locs hp hP hD hS => ?_)
  refine iv_if_eq (tgt := 14) hx hb dLa_isText_7 (by decide) ⟨by rcases hp.2.1 with q | q <;> omega, by rcases hp.2.1 with q | q <;> omega⟩ (fun hc9 => ?_) (fun hc9 => ?_)
  · skip
    refine lv_lconst (v := iL 0) hx hb dLa_isText_14 rfl ?_
    refine va_last (x := iL 0) (f := f) (n := 1) (ws := ocl dA o f :: w1) hx hb hK hP hD hS 0 3 rfl rfl (iI_vp (z := 0) (n := 1) (by decide) (by decide) (by decide)) dLa_isText_15 (fun H locs hP hD hS => ?_)
    refine lv_goto (tgt := 22) hx hb dLa_isText_16 (by decide) ?_
    refine lv_iconst (v := iI 0) hx hb dLa_isText_22 rfl ?_
    have hP : va_P (dC, dI) vwCl (ocl dA o (vp_updL f (iI 0).toNatClampNeg (iL 0)) :: w1) H := hP
    have hD : va_D A (ocl dA o (vp_updL f (iI 0).toNatClampNeg (iL 0)) :: w1) := hD
    exact rt_i hx hb hr hlocks hK hS dLa_isText_23 (ocl dA o (vp_updL f (iI 0).toNatClampNeg (iL 0)) :: w1) hP hD ⟨rfl, _, w1, rfl, by rw [upL0]; have h9 : z = 0 := (by omega); rw [← h9, hp.1], hp.2.2⟩
  · skip
    refine lv_lconst (v := iL 1) hx hb dLa_isText_10 rfl ?_
    refine lv_goto (tgt := 15) hx hb dLa_isText_11 (by decide) ?_
    refine va_last (x := iL 1) (f := f) (n := 1) (ws := ocl dA o f :: w1) hx hb hK hP hD hS 0 3 rfl rfl (iI_vp (z := 0) (n := 1) (by decide) (by decide) (by decide)) dLa_isText_15 (fun H locs hP hD hS => ?_)
    refine lv_goto (tgt := 22) hx hb dLa_isText_16 (by decide) ?_
    refine lv_iconst (v := iI 0) hx hb dLa_isText_22 rfl ?_
    have hP : va_P (dC, dI) vwCl (ocl dA o (vp_updL f (iI 0).toNatClampNeg (iL 1)) :: w1) H := hP
    have hD : va_D A (ocl dA o (vp_updL f (iI 0).toNatClampNeg (iL 1)) :: w1) := hD
    exact rt_i hx hb hr hlocks hK hS dLa_isText_23 (ocl dA o (vp_updL f (iI 0).toNatClampNeg (iL 1)) :: w1) hP hD ⟨rfl, _, w1, rfl, by rw [upL0]; have h9 : z = 1 := (by rcases hp.2.1 with q | q <;> omega); rw [← h9, hp.1], hp.2.2⟩
abbrev rmLa_isText_b : Room := { frames := 8, cells := 1, slots := 6, locals := 240 }
set_option maxRecDepth 100000 in
set_option maxHeartbeats 1000000 in
theorem pLa_isText_b (l : Launch) (hfl : ∀ e : Env, l.admits e → e.platform.stackTraces = false) (dC : Nat → ClassId) (dI : Nat → Nat → Nat) (dA : Nat → ClassId) (dS ad : Nat → Nat) (b o : Nat) (ch : Int) (f : Nat → Int64) (st : AS) (w : va_W) (hw : CW dA b st w) (hn0 : 0 ≤ ch ∧ ch < 65536) (hbad : ch < 97 ∨ 122 < ch) (sz : Nat) : Met l yLa_isText wsLa_isText rmLa_isText_b (PC (dC, dI) vwCl (tyA dA) XE [.ref b, .int (iI ch), .ref o] (ocl dA o f :: w) sz) (QI (dC, dI) vwCl (tyA dA) (fun (r : Int) (w1 : va_W) => r = 1 ∧ w1 = ocl dA o f :: w) (fun w1 => w1) (va_A (ocl dA o f :: w) sz)) 1 6 (va_A (ocl dA o f :: w) sz) := by
  refine metW_of (cc := method_4_code) (maxL := 4) (ret := (some .int)) (hh := [(0, 16, 19, 13)]) (X := XE) (ws := (ocl dA o f :: w)) (Qc := fun A => QI (dC, dI) vwCl (tyA dA) (fun (r : Int) (w1 : va_W) => r = 1 ∧ w1 = ocl dA o f :: w) (fun w1 => w1) A) (by decide) rfl (Nat.le_of_ble_eq_true rfl) ?_
  intro p e s m below meth c ls A hx hb hr hml hown hts hlocks htab hK hP hD hA hX hS hl
  have hl : lv_has ls 4 [(0, .ref b), (1, .int (iI ch)), (2, .ref o)] := hl
  have hown : s.vm.findClass "MacroReckonerLaw" = some m.cls := hown
  obtain ⟨H, hH⟩ : ∃ H : Heap, H = s.heap := ⟨_, rfl⟩
  obtain ⟨locs, hlo⟩ : ∃ L : List Loc, L = [] := ⟨_, rfl⟩
  have hP : va_P (dC, dI) vwCl (ocl dA o f :: w) H := hH ▸ hP
  have hS : va_S A s.heap H locs := by rw [hH, hlo]; exact hS
  suffices hgo : W p l e rmLa_isText_b s m [.ref b, .int (iI ch), .ref o].toArray below meth c H locs 0 0 (MQ below (QI (dC, dI) vwCl (tyA dA) (fun (r : Int) (w1 : va_W) => r = 1 ∧ w1 = ocl dA o f :: w) (fun w1 => w1) A) [.ref b, .int (iI ch), .ref o].toArray s 1 6 A) (F0 m 0 ls []) by rw [hH, hlo] at hgo; exact hgo
  clear hH hlo
  obtain ⟨fs, hfs⟩ := CW_hd hw
  refine lv_aload_n hx hb dLa_isText_0 rfl (lv_at hl 2 rfl) ?_
  refine lv_iconst (v := iI 0) hx hb dLa_isText_1 rfl ?_
  refine lv_aload_n hx hb dLa_isText_2 rfl (lv_at hl 0 rfl) ?_
  refine lv_iload_n hx hb dLa_isText_3 rfl (lv_at hl 1 rfl) ?_
  refine va_thr (As := [.int (iI ch)]) (rest := [.int (iI 0), .ref o]) (C := "MacroReckoner") (p0 := 0) (p1 := 16) (ph := 19) (ct := 13) hx hb hml hown (tMr_isText l hfl b ch hn0 hbad) (rm := rmTMr_isText) (cwV 1 hts (gdV wt4_48 wt4_49 wt4_50 wt1_1 wt4_51) rfl rfl rfl ⟨rfl, by decide, by decide, by decide +kernel⟩ ⟨by decide, by decide⟩) (va_recv (q0 := 1) (q := ("MacroReckoner", TMr, 11)) hK hP rfl hfs) hX hS hA htab (by decide) (by decide) (hts _ wt2_32) (va_Nw.use rfl hX.2.2.2.2.2) rfl hl.1 (Nat.le_of_ble_eq_true rfl) dLa_isText_4 ⟨by show _ ≤ 1; omega, by show _ ≤ 6; omega⟩ (fun H x hz hk => ?_)
  have hS := thr_S hS hz hk
  have hP := thr_P hP hk
  refine lv_astore_n (lv' := [(3, .ref x), (0, .ref b), (1, .int (iI ch)), (2, .ref o)]) hx hb dLa_isText_19 rfl hl (by decide) rfl (fun ls hl => ?_)
  refine lv_iconst (v := iI 1) hx hb dLa_isText_20 rfl ?_
  exact rt_i hx hb hr hlocks hK hS dLa_isText_21 (ocl dA o f :: w) hP hD ⟨rfl, rfl⟩
