theorem dMo_type_0 : decode prog_9_method_53_code 0 = .ok (.aload_n 0, 1) := by decide +kernel
theorem dMo_type_1 : decode prog_9_method_53_code 1 = .ok (.iconst 0, 1) := by decide +kernel
theorem dMo_type_2 : decode prog_9_method_53_code 2 = .ok (.putfield 50, 3) := by decide +kernel
theorem dMo_type_5 : decode prog_9_method_53_code 5 = .ok (.iload_n 1, 1) := by decide +kernel
theorem dMo_type_6 : decode prog_9_method_53_code 6 = .ok (.bipush 32, 2) := by decide +kernel
theorem dMo_type_8 : decode prog_9_method_53_code 8 = .ok (.if_icmp .lt 18, 3) := by decide +kernel
theorem dMo_type_11 : decode prog_9_method_53_code 11 = .ok (.iload_n 1, 1) := by decide +kernel
theorem dMo_type_12 : decode prog_9_method_53_code 12 = .ok (.bipush 126, 2) := by decide +kernel
theorem dMo_type_14 : decode prog_9_method_53_code 14 = .ok (.if_icmp .gt 12, 3) := by decide +kernel
theorem dMo_type_17 : decode prog_9_method_53_code 17 = .ok (.aload_n 0, 1) := by decide +kernel
theorem dMo_type_18 : decode prog_9_method_53_code 18 = .ok (.getfield 123, 3) := by decide +kernel
theorem dMo_type_21 : decode prog_9_method_53_code 21 = .ok (.bipush 100, 2) := by decide +kernel
theorem dMo_type_23 : decode prog_9_method_53_code 23 = .ok (.if_icmp .ne 5, 3) := by decide +kernel
theorem dMo_type_26 : decode prog_9_method_53_code 26 = .ok (.iconst 0, 1) := by decide +kernel
theorem dMo_type_27 : decode prog_9_method_53_code 27 = .ok (.ireturn, 1) := by decide +kernel
theorem dMo_type_28 : decode prog_9_method_53_code 28 = .ok (.aload_n 0, 1) := by decide +kernel
theorem dMo_type_29 : decode prog_9_method_53_code 29 = .ok (.getfield 7, 3) := by decide +kernel
theorem dMo_type_32 : decode prog_9_method_53_code 32 = .ok (.aload_n 0, 1) := by decide +kernel
theorem dMo_type_33 : decode prog_9_method_53_code 33 = .ok (.getfield 123, 3) := by decide +kernel
theorem dMo_type_36 : decode prog_9_method_53_code 36 = .ok (.iload_n 1, 1) := by decide +kernel
theorem dMo_type_37 : decode prog_9_method_53_code 37 = .ok (.iastore, 1) := by decide +kernel
theorem dMo_type_38 : decode prog_9_method_53_code 38 = .ok (.aload_n 0, 1) := by decide +kernel
theorem dMo_type_39 : decode prog_9_method_53_code 39 = .ok (.dup, 1) := by decide +kernel
theorem dMo_type_40 : decode prog_9_method_53_code 40 = .ok (.getfield 123, 3) := by decide +kernel
theorem dMo_type_43 : decode prog_9_method_53_code 43 = .ok (.iconst 1, 1) := by decide +kernel
theorem dMo_type_44 : decode prog_9_method_53_code 44 = .ok (.iadd, 1) := by decide +kernel
theorem dMo_type_45 : decode prog_9_method_53_code 45 = .ok (.putfield 123, 3) := by decide +kernel
theorem dMo_type_48 : decode prog_9_method_53_code 48 = .ok (.iconst 1, 1) := by decide +kernel
theorem dMo_type_49 : decode prog_9_method_53_code 49 = .ok (.ireturn, 1) := by decide +kernel
abbrev qMo_type (dC : Nat → ClassId) (dI : Nat → Nat → Nat) (dA : Nat → ClassId) (mo : Nat) (ft : Int) (lf : Int) (hg : Int) (kk : Int) (tx : Int) (pn : Int) (tk : Int) (fm : Int) (tO : Int) (tl : Int) (mI : Int → Int) (mT : Int → Int) (mS : Int → Int) (mC : Int → Int) (mL : Int → Int) (mB : Int → Int) (mF : Int → Int) (mU : Int → Int) (mX : Int → Int) (mP : Int → Int) (mK : Int → Int) (mD : Int → Int) (mZ : Int → Int) (st : AS) (ch : Int) (A : Nat → Prop) : Array Value → State → Outcome → State → Prop := QI (dC, dI) vwCl (tyA dA) (fun (r : Int) (v_ : (Int → Int) × Int) => r = (typA st ch).1 ∧ MIx v_.1 v_.2 (typA st ch).2) (fun (v_ : (Int → Int) × Int) => wMo dA mo 0 v_.2 hg kk tx pn tk fm tO tl v_.1 mT mS mC mL mB mF mU mX mP mK mD mZ []) A
abbrev rmMo_type : Room := { frames := 0, cells := 0, slots := 0, locals := 0 }
set_option maxRecDepth 100000 in
set_option maxHeartbeats 1000000 in
theorem cMo_type (l : Launch) (dC : Nat → ClassId) (dI : Nat → Nat → Nat) (dA : Nat → ClassId) (mo : Nat) (ft : Int) (lf : Int) (hg : Int) (kk : Int) (tx : Int) (pn : Int) (tk : Int) (fm : Int) (tO : Int) (tl : Int) (mI : Int → Int) (mT : Int → Int) (mS : Int → Int) (mC : Int → Int) (mL : Int → Int) (mB : Int → Int) (mF : Int → Int) (mU : Int → Int) (mX : Int → Int) (mP : Int → Int) (mK : Int → Int) (mD : Int → Int) (mZ : Int → Int) (st : AS) (ch : Int) (hMI : MIx mI lf st) (hch : 0 ≤ ch ∧ ch < 65536) (sz : Nat) : Met l yMo_type wsMo_type rmMo_type (PC (dC, dI) vwCl (tyA dA) XN [.ref mo, .int (iI ch)] (wMo dA mo ft lf hg kk tx pn tk fm tO tl mI mT mS mC mL mB mF mU mX mP mK mD mZ []) sz) (qMo_type dC dI dA mo ft lf hg kk tx pn tk fm tO tl mI mT mS mC mL mB mF mU mX mP mK mD mZ st ch (va_A (wMo dA mo ft lf hg kk tx pn tk fm tO tl mI mT mS mC mL mB mF mU mX mP mK mD mZ []) sz)) 0 0 (va_A (wMo dA mo ft lf hg kk tx pn tk fm tO tl mI mT mS mC mL mB mF mU mX mP mK mD mZ []) sz) := by
  refine met_of (cc := prog_9_method_53_code) (maxL := 2) (ret := (some .boolean)) (Qc := qMo_type dC dI dA mo ft lf hg kk tx pn tk fm tO tl mI mT mS mC mL mB mF mU mX mP mK mD mZ st ch) XN_ok (by decide) rfl (Nat.le_of_ble_eq_true rfl) ?_
  intro p e s m below meth c ls A hx hb hr hml hown hts hlocks hnm hK hP hD hA hX hS hl
  have hl : lv_has ls 2 [(0, .ref mo), (1, .int (iI ch))] := hl
  have hown : s.vm.findClass "MacroReckonerModel" = some m.cls := hown
  obtain ⟨H, hH⟩ : ∃ H : Heap, H = s.heap := ⟨_, rfl⟩
  obtain ⟨locs, hlo⟩ : ∃ L : List Loc, L = [] := ⟨_, rfl⟩
  have hP : va_P (dC, dI) vwCl (wMo dA mo ft lf hg kk tx pn tk fm tO tl mI mT mS mC mL mB mF mU mX mP mK mD mZ []) H := hH ▸ hP
  have hS : va_S A s.heap H locs := by rw [hH, hlo]; exact hS
  suffices hgo : W p l e rmMo_type s m [.ref mo, .int (iI ch)].toArray below meth c H locs 0 0 (MQ below (qMo_type dC dI dA mo ft lf hg kk tx pn tk fm tO tl mI mT mS mC mL mB mF mU mX mP mK mD mZ st ch A) [.ref mo, .int (iI ch)].toArray s 0 0 A) (F0 m 0 ls []) by rw [hH, hlo] at hgo; exact hgo
  clear hH hlo
  have hi1 := hMI.1
  have hi2 := hMI.2.2.1
  refine lv_aload_n hx hb dMo_type_0 rfl (lv_at hl 0 rfl) ?_
  refine lv_iconst (v := iI 0) hx hb dMo_type_1 rfl ?_
  refine va_put (D := (dC, dI)) (ci := 7) (v := .int (iI 0)) (ty := .int) (C := "MacroReckonerModel") (T := TMo) (N := 23) hx hb hts inMo tyMo tyMo_ok nmMo hown hK hP hD hS 0 rfl rfl 0 (by decide) (hts _ wt4_58) (fun _ h9 => h9) rfl (by decide +kernel) rfl rfl (Nat.le_of_ble_eq_true rfl) dMo_type_2 (fun H locs hP hD hS => ?_)
  have hP : va_P (dC, dI) vwCl (wMo dA mo 0 lf hg kk tx pn tk fm tO tl mI mT mS mC mL mB mF mU mX mP mK mD mZ []) H := hP
  have hD : va_D A (wMo dA mo 0 lf hg kk tx pn tk fm tO tl mI mT mS mC mL mB mF mU mX mP mK mD mZ []) := hD
  refine lv_iload_n hx hb dMo_type_5 rfl (lv_at hl 1 rfl) ?_
  refine lv_bipush (v := iI 32) hx hb dMo_type_6 (by decide) ?_
  refine iv_icmp_lt (tgt := 26) hx hb dMo_type_8 (by decide) ⟨by omega, by omega⟩ ⟨by decide, by decide⟩ (fun hc8 => ?_) (fun hc8 => ?_)
  · refine lv_iconst (v := iI 0) hx hb dMo_type_26 rfl ?_
    exact rt_z hx hb hr hlocks hK hS dMo_type_27 (nrw_bool (by omega)) (mI, lf) hP hD (show 0 = (typA st ch).1 ∧ MIx mI lf (typA st ch).2 from by unfold typA; rw [if_pos (by omega)]; exact ⟨rfl, hMI⟩)
  · refine lv_iload_n hx hb dMo_type_11 rfl (lv_at hl 1 rfl) ?_
    refine lv_bipush (v := iI 126) hx hb dMo_type_12 (by decide) ?_
    refine iv_icmp_gt (tgt := 26) hx hb dMo_type_14 (by decide) ⟨by omega, by omega⟩ ⟨by decide, by decide⟩ (fun hc14 => ?_) (fun hc14 => ?_)
    · refine lv_iconst (v := iI 0) hx hb dMo_type_26 rfl ?_
      exact rt_z hx hb hr hlocks hK hS dMo_type_27 (nrw_bool (by omega)) (mI, lf) hP hD (show 0 = (typA st ch).1 ∧ MIx mI lf (typA st ch).2 from by unfold typA; rw [if_pos (by omega)]; exact ⟨rfl, hMI⟩)
    · refine lv_aload_n hx hb dMo_type_17 rfl (lv_at hl 0 rfl) ?_
      refine va_get (D := (dC, dI)) (ci := 7) (v := .int (iI lf)) (C := "MacroReckonerModel") (T := TMo) (N := 23) hx hb hts inMo hown hK hP 0 rfl rfl 1 (by decide) (hts _ wt4_59) (fun _ h9 => h9) rfl dMo_type_18 ?_
      refine lv_bipush (v := iI 100) hx hb dMo_type_21 (by decide) ?_
      refine iv_icmp_ne (tgt := 28) hx hb dMo_type_23 (by decide) ⟨by omega, by omega⟩ ⟨by decide, by decide⟩ (fun hc23 => ?_) (fun hc23 => ?_)
      · refine lv_aload_n hx hb dMo_type_28 rfl (lv_at hl 0 rfl) ?_
        refine va_get (D := (dC, dI)) (ci := 7) (v := .ref (mo + 1)) (C := "MacroReckonerModel") (T := TMo) (N := 23) hx hb hts inMo hown hK hP 0 rfl rfl 2 (by decide) (hts _ wt4_60) (fun _ h9 => h9) rfl dMo_type_29 ?_
        refine lv_aload_n hx hb dMo_type_32 rfl (lv_at hl 0 rfl) ?_
        refine va_get (D := (dC, dI)) (ci := 7) (v := .int (iI lf)) (C := "MacroReckonerModel") (T := TMo) (N := 23) hx hb hts inMo hown hK hP 0 rfl rfl 1 (by decide) (hts _ wt4_59) (fun _ h9 => h9) rfl dMo_type_33 ?_
        refine lv_iload_n hx hb dMo_type_36 rfl (lv_at hl 1 rfl) ?_
        refine iv_iast (v := ch) hx hb hK hP hD hS 1 0 rfl rfl (by decide) dMo_type_37 (by omega) (by omega) (fun H locs hP hD hS => ?_)
        have hP : va_P (dC, dI) vwCl (wMo dA mo 0 lf hg kk tx pn tk fm tO tl (up mI lf ch) mT mS mC mL mB mF mU mX mP mK mD mZ []) H := hP
        have hD : va_D A (wMo dA mo 0 lf hg kk tx pn tk fm tO tl (up mI lf ch) mT mS mC mL mB mF mU mX mP mK mD mZ []) := hD
        refine lv_aload_n hx hb dMo_type_38 rfl (lv_at hl 0 rfl) ?_
        refine lv_dup hx hb dMo_type_39 rfl ?_
        refine va_get (D := (dC, dI)) (ci := 7) (v := .int (iI lf)) (C := "MacroReckonerModel") (T := TMo) (N := 23) hx hb hts inMo hown hK hP 0 rfl rfl 1 (by decide) (hts _ wt4_59) (fun _ h9 => h9) rfl dMo_type_40 ?_
        refine lv_iconst (v := iI 1) hx hb dMo_type_43 rfl ?_
        refine iv_iadd hx hb dMo_type_44 ?_
        refine va_put (D := (dC, dI)) (ci := 7) (v := .int (iI (lf + 1))) (ty := .int) (C := "MacroReckonerModel") (T := TMo) (N := 23) hx hb hts inMo tyMo tyMo_ok nmMo hown hK hP hD hS 0 rfl rfl 1 (by decide) (hts _ wt4_59) (fun _ h9 => h9) rfl (by decide +kernel) rfl rfl (Nat.le_of_ble_eq_true rfl) dMo_type_45 (fun H locs hP hD hS => ?_)
        have hP : va_P (dC, dI) vwCl (wMo dA mo 0 (lf + 1) hg kk tx pn tk fm tO tl (up mI lf ch) mT mS mC mL mB mF mU mX mP mK mD mZ []) H := hP
        have hD : va_D A (wMo dA mo 0 (lf + 1) hg kk tx pn tk fm tO tl (up mI lf ch) mT mS mC mL mB mF mU mX mP mK mD mZ []) := hD
        refine lv_iconst (v := iI 1) hx hb dMo_type_48 rfl ?_
        exact rt_z hx hb hr hlocks hK hS dMo_type_49 (nrw_bool (by omega)) (up mI lf ch, lf + 1) hP hD (show 1 = (typA st ch).1 ∧ MIx (up mI lf ch) (lf + 1) (typA st ch).2 from by have h := typA_e hMI (c := ch) (by omega); exact ⟨h.1.symm, h.2⟩)
      · refine lv_iconst (v := iI 0) hx hb dMo_type_26 rfl ?_
        exact rt_z hx hb hr hlocks hK hS dMo_type_27 (nrw_bool (by omega)) (mI, lf) hP hD (show 0 = (typA st ch).1 ∧ MIx mI lf (typA st ch).2 from by unfold typA; rw [if_pos (by omega)]; exact ⟨rfl, hMI⟩)

theorem dMo_drop_0 : decode prog_9_method_55_code 0 = .ok (.aload_n 0, 1) := by decide +kernel
theorem dMo_drop_1 : decode prog_9_method_55_code 1 = .ok (.iconst 0, 1) := by decide +kernel
theorem dMo_drop_2 : decode prog_9_method_55_code 2 = .ok (.putfield 50, 3) := by decide +kernel
theorem dMo_drop_5 : decode prog_9_method_55_code 5 = .ok (.aload_n 0, 1) := by decide +kernel
theorem dMo_drop_6 : decode prog_9_method_55_code 6 = .ok (.getfield 123, 3) := by decide +kernel
theorem dMo_drop_9 : decode prog_9_method_55_code 9 = .ok (.istore_n 1, 1) := by decide +kernel
theorem dMo_drop_10 : decode prog_9_method_55_code 10 = .ok (.aload_n 0, 1) := by decide +kernel
theorem dMo_drop_11 : decode prog_9_method_55_code 11 = .ok (.iconst 0, 1) := by decide +kernel
theorem dMo_drop_12 : decode prog_9_method_55_code 12 = .ok (.putfield 123, 3) := by decide +kernel
theorem dMo_drop_15 : decode prog_9_method_55_code 15 = .ok (.aload_n 0, 1) := by decide +kernel
theorem dMo_drop_16 : decode prog_9_method_55_code 16 = .ok (.iconst 0, 1) := by decide +kernel
theorem dMo_drop_17 : decode prog_9_method_55_code 17 = .ok (.putfield 120, 3) := by decide +kernel
theorem dMo_drop_20 : decode prog_9_method_55_code 20 = .ok (.iload_n 1, 1) := by decide +kernel
theorem dMo_drop_21 : decode prog_9_method_55_code 21 = .ok (.ireturn, 1) := by decide +kernel
abbrev qMo_drop (dC : Nat → ClassId) (dI : Nat → Nat → Nat) (dA : Nat → ClassId) (mo : Nat) (ft : Int) (lf : Int) (hg : Int) (kk : Int) (tx : Int) (pn : Int) (tk : Int) (fm : Int) (tO : Int) (tl : Int) (mI : Int → Int) (mT : Int → Int) (mS : Int → Int) (mC : Int → Int) (mL : Int → Int) (mB : Int → Int) (mF : Int → Int) (mU : Int → Int) (mX : Int → Int) (mP : Int → Int) (mK : Int → Int) (mD : Int → Int) (mZ : Int → Int) (A : Nat → Prop) : Array Value → State → Outcome → State → Prop := QI (dC, dI) vwCl (tyA dA) (fun (r : Int) (v_ : Unit) => r = lf) (fun (v_ : Unit) => wMo dA mo 0 0 hg kk 0 pn tk fm tO tl mI mT mS mC mL mB mF mU mX mP mK mD mZ []) A
abbrev rmMo_drop : Room := { frames := 0, cells := 0, slots := 0, locals := 0 }
set_option maxRecDepth 100000 in
set_option maxHeartbeats 1000000 in
theorem cMo_drop (l : Launch) (dC : Nat → ClassId) (dI : Nat → Nat → Nat) (dA : Nat → ClassId) (mo : Nat) (ft : Int) (lf : Int) (hg : Int) (kk : Int) (tx : Int) (pn : Int) (tk : Int) (fm : Int) (tO : Int) (tl : Int) (mI : Int → Int) (mT : Int → Int) (mS : Int → Int) (mC : Int → Int) (mL : Int → Int) (mB : Int → Int) (mF : Int → Int) (mU : Int → Int) (mX : Int → Int) (mP : Int → Int) (mK : Int → Int) (mD : Int → Int) (mZ : Int → Int)  (sz : Nat) : Met l yMo_drop wsMo_drop rmMo_drop (PC (dC, dI) vwCl (tyA dA) XN [.ref mo] (wMo dA mo ft lf hg kk tx pn tk fm tO tl mI mT mS mC mL mB mF mU mX mP mK mD mZ []) sz) (qMo_drop dC dI dA mo ft lf hg kk tx pn tk fm tO tl mI mT mS mC mL mB mF mU mX mP mK mD mZ (va_A (wMo dA mo ft lf hg kk tx pn tk fm tO tl mI mT mS mC mL mB mF mU mX mP mK mD mZ []) sz)) 0 0 (va_A (wMo dA mo ft lf hg kk tx pn tk fm tO tl mI mT mS mC mL mB mF mU mX mP mK mD mZ []) sz) := by
  refine met_of (cc := prog_9_method_55_code) (maxL := 2) (ret := (some .int)) (Qc := qMo_drop dC dI dA mo ft lf hg kk tx pn tk fm tO tl mI mT mS mC mL mB mF mU mX mP mK mD mZ) XN_ok (by decide) rfl (Nat.le_of_ble_eq_true rfl) ?_
  intro p e s m below meth c ls A hx hb hr hml hown hts hlocks hnm hK hP hD hA hX hS hl
  have hl : lv_has ls 2 [(0, .ref mo)] := hl
  have hown : s.vm.findClass "MacroReckonerModel" = some m.cls := hown
  obtain ⟨H, hH⟩ : ∃ H : Heap, H = s.heap := ⟨_, rfl⟩
  obtain ⟨locs, hlo⟩ : ∃ L : List Loc, L = [] := ⟨_, rfl⟩
  have hP : va_P (dC, dI) vwCl (wMo dA mo ft lf hg kk tx pn tk fm tO tl mI mT mS mC mL mB mF mU mX mP mK mD mZ []) H := hH ▸ hP
  have hS : va_S A s.heap H locs := by rw [hH, hlo]; exact hS
  suffices hgo : W p l e rmMo_drop s m [.ref mo].toArray below meth c H locs 0 0 (MQ below (qMo_drop dC dI dA mo ft lf hg kk tx pn tk fm tO tl mI mT mS mC mL mB mF mU mX mP mK mD mZ A) [.ref mo].toArray s 0 0 A) (F0 m 0 ls []) by rw [hH, hlo] at hgo; exact hgo
  clear hH hlo
  refine lv_aload_n hx hb dMo_drop_0 rfl (lv_at hl 0 rfl) ?_
  refine lv_iconst (v := iI 0) hx hb dMo_drop_1 rfl ?_
  refine va_put (D := (dC, dI)) (ci := 7) (v := .int (iI 0)) (ty := .int) (C := "MacroReckonerModel") (T := TMo) (N := 23) hx hb hts inMo tyMo tyMo_ok nmMo hown hK hP hD hS 0 rfl rfl 0 (by decide) (hts _ wt4_58) (fun _ h9 => h9) rfl (by decide +kernel) rfl rfl (Nat.le_of_ble_eq_true rfl) dMo_drop_2 (fun H locs hP hD hS => ?_)
  have hP : va_P (dC, dI) vwCl (wMo dA mo 0 lf hg kk tx pn tk fm tO tl mI mT mS mC mL mB mF mU mX mP mK mD mZ []) H := hP
  have hD : va_D A (wMo dA mo 0 lf hg kk tx pn tk fm tO tl mI mT mS mC mL mB mF mU mX mP mK mD mZ []) := hD
  refine lv_aload_n hx hb dMo_drop_5 rfl (lv_at hl 0 rfl) ?_
  refine va_get (D := (dC, dI)) (ci := 7) (v := .int (iI lf)) (C := "MacroReckonerModel") (T := TMo) (N := 23) hx hb hts inMo hown hK hP 0 rfl rfl 1 (by decide) (hts _ wt4_59) (fun _ h9 => h9) rfl dMo_drop_6 ?_
  refine lv_istore_n (lv' := [(1, .int (iI lf)), (0, .ref mo)]) hx hb dMo_drop_9 rfl hl (by decide) rfl (fun ls hl => ?_)
  refine lv_aload_n hx hb dMo_drop_10 rfl (lv_at hl 1 rfl) ?_
  refine lv_iconst (v := iI 0) hx hb dMo_drop_11 rfl ?_
  refine va_put (D := (dC, dI)) (ci := 7) (v := .int (iI 0)) (ty := .int) (C := "MacroReckonerModel") (T := TMo) (N := 23) hx hb hts inMo tyMo tyMo_ok nmMo hown hK hP hD hS 0 rfl rfl 1 (by decide) (hts _ wt4_59) (fun _ h9 => h9) rfl (by decide +kernel) rfl rfl (Nat.le_of_ble_eq_true rfl) dMo_drop_12 (fun H locs hP hD hS => ?_)
  have hP : va_P (dC, dI) vwCl (wMo dA mo 0 0 hg kk tx pn tk fm tO tl mI mT mS mC mL mB mF mU mX mP mK mD mZ []) H := hP
  have hD : va_D A (wMo dA mo 0 0 hg kk tx pn tk fm tO tl mI mT mS mC mL mB mF mU mX mP mK mD mZ []) := hD
  refine lv_aload_n hx hb dMo_drop_15 rfl (lv_at hl 1 rfl) ?_
  refine lv_iconst (v := iI 0) hx hb dMo_drop_16 rfl ?_
  refine va_put (D := (dC, dI)) (ci := 7) (v := .int (iI 0)) (ty := .int) (C := "MacroReckonerModel") (T := TMo) (N := 23) hx hb hts inMo tyMo tyMo_ok nmMo hown hK hP hD hS 0 rfl rfl 10 (by decide) (hts _ wt4_68) (fun _ h9 => h9) rfl (by decide +kernel) rfl rfl (Nat.le_of_ble_eq_true rfl) dMo_drop_17 (fun H locs hP hD hS => ?_)
  have hP : va_P (dC, dI) vwCl (wMo dA mo 0 0 hg kk 0 pn tk fm tO tl mI mT mS mC mL mB mF mU mX mP mK mD mZ []) H := hP
  have hD : va_D A (wMo dA mo 0 0 hg kk 0 pn tk fm tO tl mI mT mS mC mL mB mF mU mX mP mK mD mZ []) := hD
  refine lv_iload_n hx hb dMo_drop_20 rfl (lv_at hl 0 rfl) ?_
  exact rt_i hx hb hr hlocks hK hS dMo_drop_21 () hP hD (show lf = lf from by rfl)

theorem dMo_depth_0 : decode prog_9_method_56_code 0 = .ok (.aload_n 0, 1) := by decide +kernel
theorem dMo_depth_1 : decode prog_9_method_56_code 1 = .ok (.iconst 0, 1) := by decide +kernel
theorem dMo_depth_2 : decode prog_9_method_56_code 2 = .ok (.putfield 50, 3) := by decide +kernel
theorem dMo_depth_5 : decode prog_9_method_56_code 5 = .ok (.aload_n 0, 1) := by decide +kernel
theorem dMo_depth_6 : decode prog_9_method_56_code 6 = .ok (.getfield 83, 3) := by decide +kernel
theorem dMo_depth_9 : decode prog_9_method_56_code 9 = .ok (.ireturn, 1) := by decide +kernel
abbrev qMo_depth (dC : Nat → ClassId) (dI : Nat → Nat → Nat) (dA : Nat → ClassId) (mo : Nat) (ft : Int) (lf : Int) (hg : Int) (kk : Int) (tx : Int) (pn : Int) (tk : Int) (fm : Int) (tO : Int) (tl : Int) (mI : Int → Int) (mT : Int → Int) (mS : Int → Int) (mC : Int → Int) (mL : Int → Int) (mB : Int → Int) (mF : Int → Int) (mU : Int → Int) (mX : Int → Int) (mP : Int → Int) (mK : Int → Int) (mD : Int → Int) (mZ : Int → Int) (A : Nat → Prop) : Array Value → State → Outcome → State → Prop := QI (dC, dI) vwCl (tyA dA) (fun (r : Int) (v_ : Unit) => r = hg) (fun (v_ : Unit) => wMo dA mo 0 lf hg kk tx pn tk fm tO tl mI mT mS mC mL mB mF mU mX mP mK mD mZ []) A
abbrev rmMo_depth : Room := { frames := 0, cells := 0, slots := 0, locals := 0 }
set_option maxRecDepth 100000 in
set_option maxHeartbeats 1000000 in
theorem cMo_depth (l : Launch) (dC : Nat → ClassId) (dI : Nat → Nat → Nat) (dA : Nat → ClassId) (mo : Nat) (ft : Int) (lf : Int) (hg : Int) (kk : Int) (tx : Int) (pn : Int) (tk : Int) (fm : Int) (tO : Int) (tl : Int) (mI : Int → Int) (mT : Int → Int) (mS : Int → Int) (mC : Int → Int) (mL : Int → Int) (mB : Int → Int) (mF : Int → Int) (mU : Int → Int) (mX : Int → Int) (mP : Int → Int) (mK : Int → Int) (mD : Int → Int) (mZ : Int → Int)  (sz : Nat) : Met l yMo_depth wsMo_depth rmMo_depth (PC (dC, dI) vwCl (tyA dA) XN [.ref mo] (wMo dA mo ft lf hg kk tx pn tk fm tO tl mI mT mS mC mL mB mF mU mX mP mK mD mZ []) sz) (qMo_depth dC dI dA mo ft lf hg kk tx pn tk fm tO tl mI mT mS mC mL mB mF mU mX mP mK mD mZ (va_A (wMo dA mo ft lf hg kk tx pn tk fm tO tl mI mT mS mC mL mB mF mU mX mP mK mD mZ []) sz)) 0 0 (va_A (wMo dA mo ft lf hg kk tx pn tk fm tO tl mI mT mS mC mL mB mF mU mX mP mK mD mZ []) sz) := by
  refine met_of (cc := prog_9_method_56_code) (maxL := 1) (ret := (some .int)) (Qc := qMo_depth dC dI dA mo ft lf hg kk tx pn tk fm tO tl mI mT mS mC mL mB mF mU mX mP mK mD mZ) XN_ok (by decide) rfl (Nat.le_of_ble_eq_true rfl) ?_
  intro p e s m below meth c ls A hx hb hr hml hown hts hlocks hnm hK hP hD hA hX hS hl
  have hl : lv_has ls 1 [(0, .ref mo)] := hl
  have hown : s.vm.findClass "MacroReckonerModel" = some m.cls := hown
  obtain ⟨H, hH⟩ : ∃ H : Heap, H = s.heap := ⟨_, rfl⟩
  obtain ⟨locs, hlo⟩ : ∃ L : List Loc, L = [] := ⟨_, rfl⟩
  have hP : va_P (dC, dI) vwCl (wMo dA mo ft lf hg kk tx pn tk fm tO tl mI mT mS mC mL mB mF mU mX mP mK mD mZ []) H := hH ▸ hP
  have hS : va_S A s.heap H locs := by rw [hH, hlo]; exact hS
  suffices hgo : W p l e rmMo_depth s m [.ref mo].toArray below meth c H locs 0 0 (MQ below (qMo_depth dC dI dA mo ft lf hg kk tx pn tk fm tO tl mI mT mS mC mL mB mF mU mX mP mK mD mZ A) [.ref mo].toArray s 0 0 A) (F0 m 0 ls []) by rw [hH, hlo] at hgo; exact hgo
  clear hH hlo
  refine lv_aload_n hx hb dMo_depth_0 rfl (lv_at hl 0 rfl) ?_
  refine lv_iconst (v := iI 0) hx hb dMo_depth_1 rfl ?_
  refine va_put (D := (dC, dI)) (ci := 7) (v := .int (iI 0)) (ty := .int) (C := "MacroReckonerModel") (T := TMo) (N := 23) hx hb hts inMo tyMo tyMo_ok nmMo hown hK hP hD hS 0 rfl rfl 0 (by decide) (hts _ wt4_58) (fun _ h9 => h9) rfl (by decide +kernel) rfl rfl (Nat.le_of_ble_eq_true rfl) dMo_depth_2 (fun H locs hP hD hS => ?_)
  have hP : va_P (dC, dI) vwCl (wMo dA mo 0 lf hg kk tx pn tk fm tO tl mI mT mS mC mL mB mF mU mX mP mK mD mZ []) H := hP
  have hD : va_D A (wMo dA mo 0 lf hg kk tx pn tk fm tO tl mI mT mS mC mL mB mF mU mX mP mK mD mZ []) := hD
  refine lv_aload_n hx hb dMo_depth_5 rfl (lv_at hl 0 rfl) ?_
  refine va_get (D := (dC, dI)) (ci := 7) (v := .int (iI hg)) (C := "MacroReckonerModel") (T := TMo) (N := 23) hx hb hts inMo hown hK hP 0 rfl rfl 8 (by decide) (hts _ wt4_66) (fun _ h9 => h9) rfl dMo_depth_6 ?_
  exact rt_i hx hb hr hlocks hK hS dMo_depth_9 () hP hD (show hg = hg from by rfl)

theorem dMo_scale_0 : decode prog_9_method_57_code 0 = .ok (.aload_n 0, 1) := by decide +kernel
theorem dMo_scale_1 : decode prog_9_method_57_code 1 = .ok (.iconst 0, 1) := by decide +kernel
theorem dMo_scale_2 : decode prog_9_method_57_code 2 = .ok (.putfield 50, 3) := by decide +kernel
theorem dMo_scale_5 : decode prog_9_method_57_code 5 = .ok (.aload_n 0, 1) := by decide +kernel
theorem dMo_scale_6 : decode prog_9_method_57_code 6 = .ok (.getfield 98, 3) := by decide +kernel
theorem dMo_scale_9 : decode prog_9_method_57_code 9 = .ok (.ireturn, 1) := by decide +kernel
abbrev qMo_scale (dC : Nat → ClassId) (dI : Nat → Nat → Nat) (dA : Nat → ClassId) (mo : Nat) (ft : Int) (lf : Int) (hg : Int) (kk : Int) (tx : Int) (pn : Int) (tk : Int) (fm : Int) (tO : Int) (tl : Int) (mI : Int → Int) (mT : Int → Int) (mS : Int → Int) (mC : Int → Int) (mL : Int → Int) (mB : Int → Int) (mF : Int → Int) (mU : Int → Int) (mX : Int → Int) (mP : Int → Int) (mK : Int → Int) (mD : Int → Int) (mZ : Int → Int) (A : Nat → Prop) : Array Value → State → Outcome → State → Prop := QI (dC, dI) vwCl (tyA dA) (fun (r : Int) (v_ : Unit) => r = kk) (fun (v_ : Unit) => wMo dA mo 0 lf hg kk tx pn tk fm tO tl mI mT mS mC mL mB mF mU mX mP mK mD mZ []) A
abbrev rmMo_scale : Room := { frames := 0, cells := 0, slots := 0, locals := 0 }
set_option maxRecDepth 100000 in
set_option maxHeartbeats 1000000 in
theorem cMo_scale (l : Launch) (dC : Nat → ClassId) (dI : Nat → Nat → Nat) (dA : Nat → ClassId) (mo : Nat) (ft : Int) (lf : Int) (hg : Int) (kk : Int) (tx : Int) (pn : Int) (tk : Int) (fm : Int) (tO : Int) (tl : Int) (mI : Int → Int) (mT : Int → Int) (mS : Int → Int) (mC : Int → Int) (mL : Int → Int) (mB : Int → Int) (mF : Int → Int) (mU : Int → Int) (mX : Int → Int) (mP : Int → Int) (mK : Int → Int) (mD : Int → Int) (mZ : Int → Int)  (sz : Nat) : Met l yMo_scale wsMo_scale rmMo_scale (PC (dC, dI) vwCl (tyA dA) XN [.ref mo] (wMo dA mo ft lf hg kk tx pn tk fm tO tl mI mT mS mC mL mB mF mU mX mP mK mD mZ []) sz) (qMo_scale dC dI dA mo ft lf hg kk tx pn tk fm tO tl mI mT mS mC mL mB mF mU mX mP mK mD mZ (va_A (wMo dA mo ft lf hg kk tx pn tk fm tO tl mI mT mS mC mL mB mF mU mX mP mK mD mZ []) sz)) 0 0 (va_A (wMo dA mo ft lf hg kk tx pn tk fm tO tl mI mT mS mC mL mB mF mU mX mP mK mD mZ []) sz) := by
  refine met_of (cc := prog_9_method_57_code) (maxL := 1) (ret := (some .int)) (Qc := qMo_scale dC dI dA mo ft lf hg kk tx pn tk fm tO tl mI mT mS mC mL mB mF mU mX mP mK mD mZ) XN_ok (by decide) rfl (Nat.le_of_ble_eq_true rfl) ?_
  intro p e s m below meth c ls A hx hb hr hml hown hts hlocks hnm hK hP hD hA hX hS hl
  have hl : lv_has ls 1 [(0, .ref mo)] := hl
  have hown : s.vm.findClass "MacroReckonerModel" = some m.cls := hown
  obtain ⟨H, hH⟩ : ∃ H : Heap, H = s.heap := ⟨_, rfl⟩
  obtain ⟨locs, hlo⟩ : ∃ L : List Loc, L = [] := ⟨_, rfl⟩
  have hP : va_P (dC, dI) vwCl (wMo dA mo ft lf hg kk tx pn tk fm tO tl mI mT mS mC mL mB mF mU mX mP mK mD mZ []) H := hH ▸ hP
  have hS : va_S A s.heap H locs := by rw [hH, hlo]; exact hS
  suffices hgo : W p l e rmMo_scale s m [.ref mo].toArray below meth c H locs 0 0 (MQ below (qMo_scale dC dI dA mo ft lf hg kk tx pn tk fm tO tl mI mT mS mC mL mB mF mU mX mP mK mD mZ A) [.ref mo].toArray s 0 0 A) (F0 m 0 ls []) by rw [hH, hlo] at hgo; exact hgo
  clear hH hlo
  refine lv_aload_n hx hb dMo_scale_0 rfl (lv_at hl 0 rfl) ?_
  refine lv_iconst (v := iI 0) hx hb dMo_scale_1 rfl ?_
  refine va_put (D := (dC, dI)) (ci := 7) (v := .int (iI 0)) (ty := .int) (C := "MacroReckonerModel") (T := TMo) (N := 23) hx hb hts inMo tyMo tyMo_ok nmMo hown hK hP hD hS 0 rfl rfl 0 (by decide) (hts _ wt4_58) (fun _ h9 => h9) rfl (by decide +kernel) rfl rfl (Nat.le_of_ble_eq_true rfl) dMo_scale_2 (fun H locs hP hD hS => ?_)
  have hP : va_P (dC, dI) vwCl (wMo dA mo 0 lf hg kk tx pn tk fm tO tl mI mT mS mC mL mB mF mU mX mP mK mD mZ []) H := hP
  have hD : va_D A (wMo dA mo 0 lf hg kk tx pn tk fm tO tl mI mT mS mC mL mB mF mU mX mP mK mD mZ []) := hD
  refine lv_aload_n hx hb dMo_scale_5 rfl (lv_at hl 0 rfl) ?_
  refine va_get (D := (dC, dI)) (ci := 7) (v := .int (iI kk)) (C := "MacroReckonerModel") (T := TMo) (N := 23) hx hb hts inMo hown hK hP 0 rfl rfl 9 (by decide) (hts _ wt4_67) (fun _ h9 => h9) rfl dMo_scale_6 ?_
  exact rt_i hx hb hr hlocks hK hS dMo_scale_9 () hP hD (show kk = kk from by rfl)

theorem dMo_running_0 : decode prog_9_method_58_code 0 = .ok (.aload_n 0, 1) := by decide +kernel
theorem dMo_running_1 : decode prog_9_method_58_code 1 = .ok (.iconst 0, 1) := by decide +kernel
theorem dMo_running_2 : decode prog_9_method_58_code 2 = .ok (.putfield 50, 3) := by decide +kernel
theorem dMo_running_5 : decode prog_9_method_58_code 5 = .ok (.aload_n 0, 1) := by decide +kernel
theorem dMo_running_6 : decode prog_9_method_58_code 6 = .ok (.getfield 120, 3) := by decide +kernel
theorem dMo_running_9 : decode prog_9_method_58_code 9 = .ok (.ireturn, 1) := by decide +kernel
abbrev qMo_running (dC : Nat → ClassId) (dI : Nat → Nat → Nat) (dA : Nat → ClassId) (mo : Nat) (ft : Int) (lf : Int) (hg : Int) (kk : Int) (tx : Int) (pn : Int) (tk : Int) (fm : Int) (tO : Int) (tl : Int) (mI : Int → Int) (mT : Int → Int) (mS : Int → Int) (mC : Int → Int) (mL : Int → Int) (mB : Int → Int) (mF : Int → Int) (mU : Int → Int) (mX : Int → Int) (mP : Int → Int) (mK : Int → Int) (mD : Int → Int) (mZ : Int → Int) (A : Nat → Prop) : Array Value → State → Outcome → State → Prop := QI (dC, dI) vwCl (tyA dA) (fun (r : Int) (v_ : Unit) => r = tx) (fun (v_ : Unit) => wMo dA mo 0 lf hg kk tx pn tk fm tO tl mI mT mS mC mL mB mF mU mX mP mK mD mZ []) A
abbrev rmMo_running : Room := { frames := 0, cells := 0, slots := 0, locals := 0 }
set_option maxRecDepth 100000 in
set_option maxHeartbeats 1000000 in
theorem cMo_running (l : Launch) (dC : Nat → ClassId) (dI : Nat → Nat → Nat) (dA : Nat → ClassId) (mo : Nat) (ft : Int) (lf : Int) (hg : Int) (kk : Int) (tx : Int) (pn : Int) (tk : Int) (fm : Int) (tO : Int) (tl : Int) (mI : Int → Int) (mT : Int → Int) (mS : Int → Int) (mC : Int → Int) (mL : Int → Int) (mB : Int → Int) (mF : Int → Int) (mU : Int → Int) (mX : Int → Int) (mP : Int → Int) (mK : Int → Int) (mD : Int → Int) (mZ : Int → Int)  (sz : Nat) : Met l yMo_running wsMo_running rmMo_running (PC (dC, dI) vwCl (tyA dA) XN [.ref mo] (wMo dA mo ft lf hg kk tx pn tk fm tO tl mI mT mS mC mL mB mF mU mX mP mK mD mZ []) sz) (qMo_running dC dI dA mo ft lf hg kk tx pn tk fm tO tl mI mT mS mC mL mB mF mU mX mP mK mD mZ (va_A (wMo dA mo ft lf hg kk tx pn tk fm tO tl mI mT mS mC mL mB mF mU mX mP mK mD mZ []) sz)) 0 0 (va_A (wMo dA mo ft lf hg kk tx pn tk fm tO tl mI mT mS mC mL mB mF mU mX mP mK mD mZ []) sz) := by
  refine met_of (cc := prog_9_method_58_code) (maxL := 1) (ret := (some .int)) (Qc := qMo_running dC dI dA mo ft lf hg kk tx pn tk fm tO tl mI mT mS mC mL mB mF mU mX mP mK mD mZ) XN_ok (by decide) rfl (Nat.le_of_ble_eq_true rfl) ?_
  intro p e s m below meth c ls A hx hb hr hml hown hts hlocks hnm hK hP hD hA hX hS hl
  have hl : lv_has ls 1 [(0, .ref mo)] := hl
  have hown : s.vm.findClass "MacroReckonerModel" = some m.cls := hown
  obtain ⟨H, hH⟩ : ∃ H : Heap, H = s.heap := ⟨_, rfl⟩
  obtain ⟨locs, hlo⟩ : ∃ L : List Loc, L = [] := ⟨_, rfl⟩
  have hP : va_P (dC, dI) vwCl (wMo dA mo ft lf hg kk tx pn tk fm tO tl mI mT mS mC mL mB mF mU mX mP mK mD mZ []) H := hH ▸ hP
  have hS : va_S A s.heap H locs := by rw [hH, hlo]; exact hS
  suffices hgo : W p l e rmMo_running s m [.ref mo].toArray below meth c H locs 0 0 (MQ below (qMo_running dC dI dA mo ft lf hg kk tx pn tk fm tO tl mI mT mS mC mL mB mF mU mX mP mK mD mZ A) [.ref mo].toArray s 0 0 A) (F0 m 0 ls []) by rw [hH, hlo] at hgo; exact hgo
  clear hH hlo
  refine lv_aload_n hx hb dMo_running_0 rfl (lv_at hl 0 rfl) ?_
  refine lv_iconst (v := iI 0) hx hb dMo_running_1 rfl ?_
  refine va_put (D := (dC, dI)) (ci := 7) (v := .int (iI 0)) (ty := .int) (C := "MacroReckonerModel") (T := TMo) (N := 23) hx hb hts inMo tyMo tyMo_ok nmMo hown hK hP hD hS 0 rfl rfl 0 (by decide) (hts _ wt4_58) (fun _ h9 => h9) rfl (by decide +kernel) rfl rfl (Nat.le_of_ble_eq_true rfl) dMo_running_2 (fun H locs hP hD hS => ?_)
  have hP : va_P (dC, dI) vwCl (wMo dA mo 0 lf hg kk tx pn tk fm tO tl mI mT mS mC mL mB mF mU mX mP mK mD mZ []) H := hP
  have hD : va_D A (wMo dA mo 0 lf hg kk tx pn tk fm tO tl mI mT mS mC mL mB mF mU mX mP mK mD mZ []) := hD
  refine lv_aload_n hx hb dMo_running_5 rfl (lv_at hl 0 rfl) ?_
  refine va_get (D := (dC, dI)) (ci := 7) (v := .int (iI tx)) (C := "MacroReckonerModel") (T := TMo) (N := 23) hx hb hts inMo hown hK hP 0 rfl rfl 10 (by decide) (hts _ wt4_68) (fun _ h9 => h9) rfl dMo_running_6 ?_
  exact rt_i hx hb hr hlocks hK hS dMo_running_9 () hP hD (show tx = tx from by rfl)

theorem dMo_printed_0 : decode prog_9_method_60_code 0 = .ok (.aload_n 0, 1) := by decide +kernel
theorem dMo_printed_1 : decode prog_9_method_60_code 1 = .ok (.iconst 0, 1) := by decide +kernel
theorem dMo_printed_2 : decode prog_9_method_60_code 2 = .ok (.putfield 50, 3) := by decide +kernel
theorem dMo_printed_5 : decode prog_9_method_60_code 5 = .ok (.aload_n 0, 1) := by decide +kernel
theorem dMo_printed_6 : decode prog_9_method_60_code 6 = .ok (.getfield 114, 3) := by decide +kernel
theorem dMo_printed_9 : decode prog_9_method_60_code 9 = .ok (.ireturn, 1) := by decide +kernel
abbrev qMo_printed (dC : Nat → ClassId) (dI : Nat → Nat → Nat) (dA : Nat → ClassId) (mo : Nat) (ft : Int) (lf : Int) (hg : Int) (kk : Int) (tx : Int) (pn : Int) (tk : Int) (fm : Int) (tO : Int) (tl : Int) (mI : Int → Int) (mT : Int → Int) (mS : Int → Int) (mC : Int → Int) (mL : Int → Int) (mB : Int → Int) (mF : Int → Int) (mU : Int → Int) (mX : Int → Int) (mP : Int → Int) (mK : Int → Int) (mD : Int → Int) (mZ : Int → Int) (A : Nat → Prop) : Array Value → State → Outcome → State → Prop := QI (dC, dI) vwCl (tyA dA) (fun (r : Int) (v_ : Unit) => r = pn) (fun (v_ : Unit) => wMo dA mo 0 lf hg kk tx pn tk fm tO tl mI mT mS mC mL mB mF mU mX mP mK mD mZ []) A
abbrev rmMo_printed : Room := { frames := 0, cells := 0, slots := 0, locals := 0 }
set_option maxRecDepth 100000 in
set_option maxHeartbeats 1000000 in
theorem cMo_printed (l : Launch) (dC : Nat → ClassId) (dI : Nat → Nat → Nat) (dA : Nat → ClassId) (mo : Nat) (ft : Int) (lf : Int) (hg : Int) (kk : Int) (tx : Int) (pn : Int) (tk : Int) (fm : Int) (tO : Int) (tl : Int) (mI : Int → Int) (mT : Int → Int) (mS : Int → Int) (mC : Int → Int) (mL : Int → Int) (mB : Int → Int) (mF : Int → Int) (mU : Int → Int) (mX : Int → Int) (mP : Int → Int) (mK : Int → Int) (mD : Int → Int) (mZ : Int → Int)  (sz : Nat) : Met l yMo_printed wsMo_printed rmMo_printed (PC (dC, dI) vwCl (tyA dA) XN [.ref mo] (wMo dA mo ft lf hg kk tx pn tk fm tO tl mI mT mS mC mL mB mF mU mX mP mK mD mZ []) sz) (qMo_printed dC dI dA mo ft lf hg kk tx pn tk fm tO tl mI mT mS mC mL mB mF mU mX mP mK mD mZ (va_A (wMo dA mo ft lf hg kk tx pn tk fm tO tl mI mT mS mC mL mB mF mU mX mP mK mD mZ []) sz)) 0 0 (va_A (wMo dA mo ft lf hg kk tx pn tk fm tO tl mI mT mS mC mL mB mF mU mX mP mK mD mZ []) sz) := by
  refine met_of (cc := prog_9_method_60_code) (maxL := 1) (ret := (some .int)) (Qc := qMo_printed dC dI dA mo ft lf hg kk tx pn tk fm tO tl mI mT mS mC mL mB mF mU mX mP mK mD mZ) XN_ok (by decide) rfl (Nat.le_of_ble_eq_true rfl) ?_
  intro p e s m below meth c ls A hx hb hr hml hown hts hlocks hnm hK hP hD hA hX hS hl
  have hl : lv_has ls 1 [(0, .ref mo)] := hl
  have hown : s.vm.findClass "MacroReckonerModel" = some m.cls := hown
  obtain ⟨H, hH⟩ : ∃ H : Heap, H = s.heap := ⟨_, rfl⟩
  obtain ⟨locs, hlo⟩ : ∃ L : List Loc, L = [] := ⟨_, rfl⟩
  have hP : va_P (dC, dI) vwCl (wMo dA mo ft lf hg kk tx pn tk fm tO tl mI mT mS mC mL mB mF mU mX mP mK mD mZ []) H := hH ▸ hP
  have hS : va_S A s.heap H locs := by rw [hH, hlo]; exact hS
  suffices hgo : W p l e rmMo_printed s m [.ref mo].toArray below meth c H locs 0 0 (MQ below (qMo_printed dC dI dA mo ft lf hg kk tx pn tk fm tO tl mI mT mS mC mL mB mF mU mX mP mK mD mZ A) [.ref mo].toArray s 0 0 A) (F0 m 0 ls []) by rw [hH, hlo] at hgo; exact hgo
  clear hH hlo
  refine lv_aload_n hx hb dMo_printed_0 rfl (lv_at hl 0 rfl) ?_
  refine lv_iconst (v := iI 0) hx hb dMo_printed_1 rfl ?_
  refine va_put (D := (dC, dI)) (ci := 7) (v := .int (iI 0)) (ty := .int) (C := "MacroReckonerModel") (T := TMo) (N := 23) hx hb hts inMo tyMo tyMo_ok nmMo hown hK hP hD hS 0 rfl rfl 0 (by decide) (hts _ wt4_58) (fun _ h9 => h9) rfl (by decide +kernel) rfl rfl (Nat.le_of_ble_eq_true rfl) dMo_printed_2 (fun H locs hP hD hS => ?_)
  have hP : va_P (dC, dI) vwCl (wMo dA mo 0 lf hg kk tx pn tk fm tO tl mI mT mS mC mL mB mF mU mX mP mK mD mZ []) H := hP
  have hD : va_D A (wMo dA mo 0 lf hg kk tx pn tk fm tO tl mI mT mS mC mL mB mF mU mX mP mK mD mZ []) := hD
  refine lv_aload_n hx hb dMo_printed_5 rfl (lv_at hl 0 rfl) ?_
  refine va_get (D := (dC, dI)) (ci := 7) (v := .int (iI pn)) (C := "MacroReckonerModel") (T := TMo) (N := 23) hx hb hts inMo hown hK hP 0 rfl rfl 14 (by decide) (hts _ wt4_72) (fun _ h9 => h9) rfl dMo_printed_6 ?_
  exact rt_i hx hb hr hlocks hK hS dMo_printed_9 () hP hD (show pn = pn from by rfl)

theorem dMo_tear_0 : decode prog_9_method_62_code 0 = .ok (.aload_n 0, 1) := by decide +kernel
theorem dMo_tear_1 : decode prog_9_method_62_code 1 = .ok (.iconst 0, 1) := by decide +kernel
theorem dMo_tear_2 : decode prog_9_method_62_code 2 = .ok (.putfield 50, 3) := by decide +kernel
theorem dMo_tear_5 : decode prog_9_method_62_code 5 = .ok (.aload_n 0, 1) := by decide +kernel
theorem dMo_tear_6 : decode prog_9_method_62_code 6 = .ok (.getfield 114, 3) := by decide +kernel
theorem dMo_tear_9 : decode prog_9_method_62_code 9 = .ok (.istore_n 1, 1) := by decide +kernel
theorem dMo_tear_10 : decode prog_9_method_62_code 10 = .ok (.aload_n 0, 1) := by decide +kernel
theorem dMo_tear_11 : decode prog_9_method_62_code 11 = .ok (.iconst 0, 1) := by decide +kernel
theorem dMo_tear_12 : decode prog_9_method_62_code 12 = .ok (.putfield 114, 3) := by decide +kernel
theorem dMo_tear_15 : decode prog_9_method_62_code 15 = .ok (.iload_n 1, 1) := by decide +kernel
theorem dMo_tear_16 : decode prog_9_method_62_code 16 = .ok (.ireturn, 1) := by decide +kernel
abbrev qMo_tear (dC : Nat → ClassId) (dI : Nat → Nat → Nat) (dA : Nat → ClassId) (mo : Nat) (ft : Int) (lf : Int) (hg : Int) (kk : Int) (tx : Int) (pn : Int) (tk : Int) (fm : Int) (tO : Int) (tl : Int) (mI : Int → Int) (mT : Int → Int) (mS : Int → Int) (mC : Int → Int) (mL : Int → Int) (mB : Int → Int) (mF : Int → Int) (mU : Int → Int) (mX : Int → Int) (mP : Int → Int) (mK : Int → Int) (mD : Int → Int) (mZ : Int → Int) (A : Nat → Prop) : Array Value → State → Outcome → State → Prop := QI (dC, dI) vwCl (tyA dA) (fun (r : Int) (v_ : Unit) => r = pn) (fun (v_ : Unit) => wMo dA mo 0 lf hg kk tx 0 tk fm tO tl mI mT mS mC mL mB mF mU mX mP mK mD mZ []) A
abbrev rmMo_tear : Room := { frames := 0, cells := 0, slots := 0, locals := 0 }
set_option maxRecDepth 100000 in
set_option maxHeartbeats 1000000 in
theorem cMo_tear (l : Launch) (dC : Nat → ClassId) (dI : Nat → Nat → Nat) (dA : Nat → ClassId) (mo : Nat) (ft : Int) (lf : Int) (hg : Int) (kk : Int) (tx : Int) (pn : Int) (tk : Int) (fm : Int) (tO : Int) (tl : Int) (mI : Int → Int) (mT : Int → Int) (mS : Int → Int) (mC : Int → Int) (mL : Int → Int) (mB : Int → Int) (mF : Int → Int) (mU : Int → Int) (mX : Int → Int) (mP : Int → Int) (mK : Int → Int) (mD : Int → Int) (mZ : Int → Int)  (sz : Nat) : Met l yMo_tear wsMo_tear rmMo_tear (PC (dC, dI) vwCl (tyA dA) XN [.ref mo] (wMo dA mo ft lf hg kk tx pn tk fm tO tl mI mT mS mC mL mB mF mU mX mP mK mD mZ []) sz) (qMo_tear dC dI dA mo ft lf hg kk tx pn tk fm tO tl mI mT mS mC mL mB mF mU mX mP mK mD mZ (va_A (wMo dA mo ft lf hg kk tx pn tk fm tO tl mI mT mS mC mL mB mF mU mX mP mK mD mZ []) sz)) 0 0 (va_A (wMo dA mo ft lf hg kk tx pn tk fm tO tl mI mT mS mC mL mB mF mU mX mP mK mD mZ []) sz) := by
  refine met_of (cc := prog_9_method_62_code) (maxL := 2) (ret := (some .int)) (Qc := qMo_tear dC dI dA mo ft lf hg kk tx pn tk fm tO tl mI mT mS mC mL mB mF mU mX mP mK mD mZ) XN_ok (by decide) rfl (Nat.le_of_ble_eq_true rfl) ?_
  intro p e s m below meth c ls A hx hb hr hml hown hts hlocks hnm hK hP hD hA hX hS hl
  have hl : lv_has ls 2 [(0, .ref mo)] := hl
  have hown : s.vm.findClass "MacroReckonerModel" = some m.cls := hown
  obtain ⟨H, hH⟩ : ∃ H : Heap, H = s.heap := ⟨_, rfl⟩
  obtain ⟨locs, hlo⟩ : ∃ L : List Loc, L = [] := ⟨_, rfl⟩
  have hP : va_P (dC, dI) vwCl (wMo dA mo ft lf hg kk tx pn tk fm tO tl mI mT mS mC mL mB mF mU mX mP mK mD mZ []) H := hH ▸ hP
  have hS : va_S A s.heap H locs := by rw [hH, hlo]; exact hS
  suffices hgo : W p l e rmMo_tear s m [.ref mo].toArray below meth c H locs 0 0 (MQ below (qMo_tear dC dI dA mo ft lf hg kk tx pn tk fm tO tl mI mT mS mC mL mB mF mU mX mP mK mD mZ A) [.ref mo].toArray s 0 0 A) (F0 m 0 ls []) by rw [hH, hlo] at hgo; exact hgo
  clear hH hlo
  refine lv_aload_n hx hb dMo_tear_0 rfl (lv_at hl 0 rfl) ?_
  refine lv_iconst (v := iI 0) hx hb dMo_tear_1 rfl ?_
  refine va_put (D := (dC, dI)) (ci := 7) (v := .int (iI 0)) (ty := .int) (C := "MacroReckonerModel") (T := TMo) (N := 23) hx hb hts inMo tyMo tyMo_ok nmMo hown hK hP hD hS 0 rfl rfl 0 (by decide) (hts _ wt4_58) (fun _ h9 => h9) rfl (by decide +kernel) rfl rfl (Nat.le_of_ble_eq_true rfl) dMo_tear_2 (fun H locs hP hD hS => ?_)
  have hP : va_P (dC, dI) vwCl (wMo dA mo 0 lf hg kk tx pn tk fm tO tl mI mT mS mC mL mB mF mU mX mP mK mD mZ []) H := hP
  have hD : va_D A (wMo dA mo 0 lf hg kk tx pn tk fm tO tl mI mT mS mC mL mB mF mU mX mP mK mD mZ []) := hD
  refine lv_aload_n hx hb dMo_tear_5 rfl (lv_at hl 0 rfl) ?_
  refine va_get (D := (dC, dI)) (ci := 7) (v := .int (iI pn)) (C := "MacroReckonerModel") (T := TMo) (N := 23) hx hb hts inMo hown hK hP 0 rfl rfl 14 (by decide) (hts _ wt4_72) (fun _ h9 => h9) rfl dMo_tear_6 ?_
  refine lv_istore_n (lv' := [(1, .int (iI pn)), (0, .ref mo)]) hx hb dMo_tear_9 rfl hl (by decide) rfl (fun ls hl => ?_)
  refine lv_aload_n hx hb dMo_tear_10 rfl (lv_at hl 1 rfl) ?_
  refine lv_iconst (v := iI 0) hx hb dMo_tear_11 rfl ?_
  refine va_put (D := (dC, dI)) (ci := 7) (v := .int (iI 0)) (ty := .int) (C := "MacroReckonerModel") (T := TMo) (N := 23) hx hb hts inMo tyMo tyMo_ok nmMo hown hK hP hD hS 0 rfl rfl 14 (by decide) (hts _ wt4_72) (fun _ h9 => h9) rfl (by decide +kernel) rfl rfl (Nat.le_of_ble_eq_true rfl) dMo_tear_12 (fun H locs hP hD hS => ?_)
  have hP : va_P (dC, dI) vwCl (wMo dA mo 0 lf hg kk tx 0 tk fm tO tl mI mT mS mC mL mB mF mU mX mP mK mD mZ []) H := hP
  have hD : va_D A (wMo dA mo 0 lf hg kk tx 0 tk fm tO tl mI mT mS mC mL mB mF mU mX mP mK mD mZ []) := hD
  refine lv_iload_n hx hb dMo_tear_15 rfl (lv_at hl 0 rfl) ?_
  exact rt_i hx hb hr hlocks hK hS dMo_tear_16 () hP hD (show pn = pn from by rfl)

theorem dMo_thrown_0 : decode prog_9_method_2_code 0 = .ok (.aload_n 0, 1) := by decide +kernel
theorem dMo_thrown_1 : decode prog_9_method_2_code 1 = .ok (.getfield 50, 3) := by decide +kernel
theorem dMo_thrown_4 : decode prog_9_method_2_code 4 = .ok (.ireturn, 1) := by decide +kernel
abbrev qMo_thrown (dC : Nat → ClassId) (dI : Nat → Nat → Nat) (dA : Nat → ClassId) (mo : Nat) (ft : Int) (lf : Int) (hg : Int) (kk : Int) (tx : Int) (pn : Int) (tk : Int) (fm : Int) (tO : Int) (tl : Int) (mI : Int → Int) (mT : Int → Int) (mS : Int → Int) (mC : Int → Int) (mL : Int → Int) (mB : Int → Int) (mF : Int → Int) (mU : Int → Int) (mX : Int → Int) (mP : Int → Int) (mK : Int → Int) (mD : Int → Int) (mZ : Int → Int) (A : Nat → Prop) : Array Value → State → Outcome → State → Prop := QI (dC, dI) vwCl (tyA dA) (fun (r : Int) (v_ : Unit) => r = ft) (fun (v_ : Unit) => wMo dA mo ft lf hg kk tx pn tk fm tO tl mI mT mS mC mL mB mF mU mX mP mK mD mZ []) A
abbrev rmMo_thrown : Room := { frames := 0, cells := 0, slots := 0, locals := 0 }
set_option maxRecDepth 100000 in
set_option maxHeartbeats 1000000 in
theorem cMo_thrown (l : Launch) (dC : Nat → ClassId) (dI : Nat → Nat → Nat) (dA : Nat → ClassId) (mo : Nat) (ft : Int) (lf : Int) (hg : Int) (kk : Int) (tx : Int) (pn : Int) (tk : Int) (fm : Int) (tO : Int) (tl : Int) (mI : Int → Int) (mT : Int → Int) (mS : Int → Int) (mC : Int → Int) (mL : Int → Int) (mB : Int → Int) (mF : Int → Int) (mU : Int → Int) (mX : Int → Int) (mP : Int → Int) (mK : Int → Int) (mD : Int → Int) (mZ : Int → Int)  (sz : Nat) : Met l yMo_thrown wsMo_thrown rmMo_thrown (PC (dC, dI) vwCl (tyA dA) XN [.ref mo] (wMo dA mo ft lf hg kk tx pn tk fm tO tl mI mT mS mC mL mB mF mU mX mP mK mD mZ []) sz) (qMo_thrown dC dI dA mo ft lf hg kk tx pn tk fm tO tl mI mT mS mC mL mB mF mU mX mP mK mD mZ (va_A (wMo dA mo ft lf hg kk tx pn tk fm tO tl mI mT mS mC mL mB mF mU mX mP mK mD mZ []) sz)) 0 0 (va_A (wMo dA mo ft lf hg kk tx pn tk fm tO tl mI mT mS mC mL mB mF mU mX mP mK mD mZ []) sz) := by
  refine met_of (cc := prog_9_method_2_code) (maxL := 1) (ret := (some .int)) (Qc := qMo_thrown dC dI dA mo ft lf hg kk tx pn tk fm tO tl mI mT mS mC mL mB mF mU mX mP mK mD mZ) XN_ok (by decide) rfl (Nat.le_of_ble_eq_true rfl) ?_
  intro p e s m below meth c ls A hx hb hr hml hown hts hlocks hnm hK hP hD hA hX hS hl
  have hl : lv_has ls 1 [(0, .ref mo)] := hl
  have hown : s.vm.findClass "MacroReckonerModel" = some m.cls := hown
  obtain ⟨H, hH⟩ : ∃ H : Heap, H = s.heap := ⟨_, rfl⟩
  obtain ⟨locs, hlo⟩ : ∃ L : List Loc, L = [] := ⟨_, rfl⟩
  have hP : va_P (dC, dI) vwCl (wMo dA mo ft lf hg kk tx pn tk fm tO tl mI mT mS mC mL mB mF mU mX mP mK mD mZ []) H := hH ▸ hP
  have hS : va_S A s.heap H locs := by rw [hH, hlo]; exact hS
  suffices hgo : W p l e rmMo_thrown s m [.ref mo].toArray below meth c H locs 0 0 (MQ below (qMo_thrown dC dI dA mo ft lf hg kk tx pn tk fm tO tl mI mT mS mC mL mB mF mU mX mP mK mD mZ A) [.ref mo].toArray s 0 0 A) (F0 m 0 ls []) by rw [hH, hlo] at hgo; exact hgo
  clear hH hlo
  refine lv_aload_n hx hb dMo_thrown_0 rfl (lv_at hl 0 rfl) ?_
  refine va_get (D := (dC, dI)) (ci := 7) (v := .int (iI ft)) (C := "MacroReckonerModel") (T := TMo) (N := 23) hx hb hts inMo hown hK hP 0 rfl rfl 0 (by decide) (hts _ wt4_58) (fun _ h9 => h9) rfl dMo_thrown_1 ?_
  exact rt_i hx hb hr hlocks hK hS dMo_thrown_4 () hP hD (show ft = ft from by rfl)

theorem dMo_isText_0 : decode prog_9_method_59_code 0 = .ok (.aload_n 0, 1) := by decide +kernel
theorem dMo_isText_1 : decode prog_9_method_59_code 1 = .ok (.iload_n 1, 1) := by decide +kernel
theorem dMo_isText_2 : decode prog_9_method_59_code 2 = .ok (.bipush 97, 2) := by decide +kernel
theorem dMo_isText_4 : decode prog_9_method_59_code 4 = .ok (.if_icmp .lt 13, 3) := by decide +kernel
theorem dMo_isText_7 : decode prog_9_method_59_code 7 = .ok (.iload_n 1, 1) := by decide +kernel
theorem dMo_isText_8 : decode prog_9_method_59_code 8 = .ok (.bipush 122, 2) := by decide +kernel
theorem dMo_isText_10 : decode prog_9_method_59_code 10 = .ok (.if_icmp .gt 7, 3) := by decide +kernel
theorem dMo_isText_13 : decode prog_9_method_59_code 13 = .ok (.iconst 0, 1) := by decide +kernel
theorem dMo_isText_14 : decode prog_9_method_59_code 14 = .ok (.goto 4, 3) := by decide +kernel
theorem dMo_isText_17 : decode prog_9_method_59_code 17 = .ok (.iconst 1, 1) := by decide +kernel
theorem dMo_isText_18 : decode prog_9_method_59_code 18 = .ok (.putfield 50, 3) := by decide +kernel
theorem dMo_isText_21 : decode prog_9_method_59_code 21 = .ok (.aload_n 0, 1) := by decide +kernel
theorem dMo_isText_22 : decode prog_9_method_59_code 22 = .ok (.getfield 50, 3) := by decide +kernel
theorem dMo_isText_25 : decode prog_9_method_59_code 25 = .ok (.ifCond .ne 19, 3) := by decide +kernel
theorem dMo_isText_28 : decode prog_9_method_59_code 28 = .ok (.aload_n 0, 1) := by decide +kernel
theorem dMo_isText_29 : decode prog_9_method_59_code 29 = .ok (.getfield 13, 3) := by decide +kernel
theorem dMo_isText_32 : decode prog_9_method_59_code 32 = .ok (.iload_n 1, 1) := by decide +kernel
theorem dMo_isText_33 : decode prog_9_method_59_code 33 = .ok (.bipush 97, 2) := by decide +kernel
theorem dMo_isText_35 : decode prog_9_method_59_code 35 = .ok (.isub, 1) := by decide +kernel
theorem dMo_isText_36 : decode prog_9_method_59_code 36 = .ok (.baload, 1) := by decide +kernel
theorem dMo_isText_37 : decode prog_9_method_59_code 37 = .ok (.ifCond .eq 7, 3) := by decide +kernel
theorem dMo_isText_40 : decode prog_9_method_59_code 40 = .ok (.iconst 1, 1) := by decide +kernel
theorem dMo_isText_41 : decode prog_9_method_59_code 41 = .ok (.goto 4, 3) := by decide +kernel
theorem dMo_isText_44 : decode prog_9_method_59_code 44 = .ok (.iconst 0, 1) := by decide +kernel
theorem dMo_isText_45 : decode prog_9_method_59_code 45 = .ok (.ireturn, 1) := by decide +kernel
abbrev qMo_isText (dC : Nat → ClassId) (dI : Nat → Nat → Nat) (dA : Nat → ClassId) (mo : Nat) (ft : Int) (lf : Int) (hg : Int) (kk : Int) (tx : Int) (pn : Int) (tk : Int) (fm : Int) (tO : Int) (tl : Int) (mI : Int → Int) (mT : Int → Int) (mS : Int → Int) (mC : Int → Int) (mL : Int → Int) (mB : Int → Int) (mF : Int → Int) (mU : Int → Int) (mX : Int → Int) (mP : Int → Int) (mK : Int → Int) (mD : Int → Int) (mZ : Int → Int) (ch : Int) (A : Nat → Prop) : Array Value → State → Outcome → State → Prop := QI (dC, dI) vwCl (tyA dA) (fun (r : Int) (v_ : Int) => (97 ≤ ch ∧ ch ≤ 122 ∧ v_ = 0 ∧ r = mT (ch - 97)) ∨ ((ch < 97 ∨ 122 < ch) ∧ v_ = 1 ∧ r = 0)) (fun (v_ : Int) => wMo dA mo v_ lf hg kk tx pn tk fm tO tl mI mT mS mC mL mB mF mU mX mP mK mD mZ []) A
abbrev rmMo_isText : Room := { frames := 0, cells := 0, slots := 0, locals := 0 }
set_option maxRecDepth 100000 in
set_option maxHeartbeats 1000000 in
theorem cMo_isText (l : Launch) (dC : Nat → ClassId) (dI : Nat → Nat → Nat) (dA : Nat → ClassId) (mo : Nat) (ft : Int) (lf : Int) (hg : Int) (kk : Int) (tx : Int) (pn : Int) (tk : Int) (fm : Int) (tO : Int) (tl : Int) (mI : Int → Int) (mT : Int → Int) (mS : Int → Int) (mC : Int → Int) (mL : Int → Int) (mB : Int → Int) (mF : Int → Int) (mU : Int → Int) (mX : Int → Int) (mP : Int → Int) (mK : Int → Int) (mD : Int → Int) (mZ : Int → Int) (ch : Int) (hch : 0 ≤ ch ∧ ch < 65536) (hbo : ∀ i, 0 ≤ i → i < 26 → mT i = 0 ∨ mT i = 1) (sz : Nat) : Met l yMo_isText wsMo_isText rmMo_isText (PC (dC, dI) vwCl (tyA dA) XN [.ref mo, .int (iI ch)] (wMo dA mo ft lf hg kk tx pn tk fm tO tl mI mT mS mC mL mB mF mU mX mP mK mD mZ []) sz) (qMo_isText dC dI dA mo ft lf hg kk tx pn tk fm tO tl mI mT mS mC mL mB mF mU mX mP mK mD mZ ch (va_A (wMo dA mo ft lf hg kk tx pn tk fm tO tl mI mT mS mC mL mB mF mU mX mP mK mD mZ []) sz)) 0 0 (va_A (wMo dA mo ft lf hg kk tx pn tk fm tO tl mI mT mS mC mL mB mF mU mX mP mK mD mZ []) sz) := by
  refine met_of (cc := prog_9_method_59_code) (maxL := 2) (ret := (some .boolean)) (Qc := qMo_isText dC dI dA mo ft lf hg kk tx pn tk fm tO tl mI mT mS mC mL mB mF mU mX mP mK mD mZ ch) XN_ok (by decide) rfl (Nat.le_of_ble_eq_true rfl) ?_
  intro p e s m below meth c ls A hx hb hr hml hown hts hlocks hnm hK hP hD hA hX hS hl
  have hl : lv_has ls 2 [(0, .ref mo), (1, .int (iI ch))] := hl
  have hown : s.vm.findClass "MacroReckonerModel" = some m.cls := hown
  obtain ⟨H, hH⟩ : ∃ H : Heap, H = s.heap := ⟨_, rfl⟩
  obtain ⟨locs, hlo⟩ : ∃ L : List Loc, L = [] := ⟨_, rfl⟩
  have hP : va_P (dC, dI) vwCl (wMo dA mo ft lf hg kk tx pn tk fm tO tl mI mT mS mC mL mB mF mU mX mP mK mD mZ []) H := hH ▸ hP
  have hS : va_S A s.heap H locs := by rw [hH, hlo]; exact hS
  suffices hgo : W p l e rmMo_isText s m [.ref mo, .int (iI ch)].toArray below meth c H locs 0 0 (MQ below (qMo_isText dC dI dA mo ft lf hg kk tx pn tk fm tO tl mI mT mS mC mL mB mF mU mX mP mK mD mZ ch A) [.ref mo, .int (iI ch)].toArray s 0 0 A) (F0 m 0 ls []) by rw [hH, hlo] at hgo; exact hgo
  clear hH hlo
  refine lv_aload_n hx hb dMo_isText_0 rfl (lv_at hl 0 rfl) ?_
  refine lv_iload_n hx hb dMo_isText_1 rfl (lv_at hl 1 rfl) ?_
  refine lv_bipush (v := iI 97) hx hb dMo_isText_2 (by decide) ?_
  refine iv_icmp_lt (tgt := 17) hx hb dMo_isText_4 (by decide) ⟨by omega, by omega⟩ ⟨by decide, by decide⟩ (fun hc4 => ?_) (fun hc4 => ?_)
  · refine lv_iconst (v := iI 1) hx hb dMo_isText_17 rfl ?_
    refine va_put (D := (dC, dI)) (ci := 7) (v := .int (iI 1)) (ty := .int) (C := "MacroReckonerModel") (T := TMo) (N := 23) hx hb hts inMo tyMo tyMo_ok nmMo hown hK hP hD hS 0 rfl rfl 0 (by decide) (hts _ wt4_58) (fun _ h9 => h9) rfl (by decide +kernel) rfl rfl (Nat.le_of_ble_eq_true rfl) dMo_isText_18 (fun H locs hP hD hS => ?_)
    have hP : va_P (dC, dI) vwCl (wMo dA mo 1 lf hg kk tx pn tk fm tO tl mI mT mS mC mL mB mF mU mX mP mK mD mZ []) H := hP
    have hD : va_D A (wMo dA mo 1 lf hg kk tx pn tk fm tO tl mI mT mS mC mL mB mF mU mX mP mK mD mZ []) := hD
    refine lv_aload_n hx hb dMo_isText_21 rfl (lv_at hl 0 rfl) ?_
    refine va_get (D := (dC, dI)) (ci := 7) (v := .int (iI 1)) (C := "MacroReckonerModel") (T := TMo) (N := 23) hx hb hts inMo hown hK hP 0 rfl rfl 0 (by decide) (hts _ wt4_58) (fun _ h9 => h9) rfl dMo_isText_22 ?_
    refine iv_if_ne (tgt := 44) hx hb dMo_isText_25 (by decide) ⟨by decide, by decide⟩ (fun hc25 => ?_) (fun hc25 => absurd hc25 (by omega))
    refine lv_iconst (v := iI 0) hx hb dMo_isText_44 rfl ?_
    exact rt_z hx hb hr hlocks hK hS dMo_isText_45 (nrw_bool (by omega)) (1) hP hD (show (97 ≤ ch ∧ ch ≤ 122 ∧ 1 = 0 ∧ 0 = mT (ch - 97)) ∨ ((ch < 97 ∨ 122 < ch) ∧ 1 = 1 ∧ 0 = 0) from by omega)
  · refine lv_iload_n hx hb dMo_isText_7 rfl (lv_at hl 1 rfl) ?_
    refine lv_bipush (v := iI 122) hx hb dMo_isText_8 (by decide) ?_
    refine iv_icmp_gt (tgt := 17) hx hb dMo_isText_10 (by decide) ⟨by omega, by omega⟩ ⟨by decide, by decide⟩ (fun hc10 => ?_) (fun hc10 => ?_)
    · refine lv_iconst (v := iI 1) hx hb dMo_isText_17 rfl ?_
      refine va_put (D := (dC, dI)) (ci := 7) (v := .int (iI 1)) (ty := .int) (C := "MacroReckonerModel") (T := TMo) (N := 23) hx hb hts inMo tyMo tyMo_ok nmMo hown hK hP hD hS 0 rfl rfl 0 (by decide) (hts _ wt4_58) (fun _ h9 => h9) rfl (by decide +kernel) rfl rfl (Nat.le_of_ble_eq_true rfl) dMo_isText_18 (fun H locs hP hD hS => ?_)
      have hP : va_P (dC, dI) vwCl (wMo dA mo 1 lf hg kk tx pn tk fm tO tl mI mT mS mC mL mB mF mU mX mP mK mD mZ []) H := hP
      have hD : va_D A (wMo dA mo 1 lf hg kk tx pn tk fm tO tl mI mT mS mC mL mB mF mU mX mP mK mD mZ []) := hD
      refine lv_aload_n hx hb dMo_isText_21 rfl (lv_at hl 0 rfl) ?_
      refine va_get (D := (dC, dI)) (ci := 7) (v := .int (iI 1)) (C := "MacroReckonerModel") (T := TMo) (N := 23) hx hb hts inMo hown hK hP 0 rfl rfl 0 (by decide) (hts _ wt4_58) (fun _ h9 => h9) rfl dMo_isText_22 ?_
      refine iv_if_ne (tgt := 44) hx hb dMo_isText_25 (by decide) ⟨by decide, by decide⟩ (fun hc25 => ?_) (fun hc25 => absurd hc25 (by omega))
      refine lv_iconst (v := iI 0) hx hb dMo_isText_44 rfl ?_
      exact rt_z hx hb hr hlocks hK hS dMo_isText_45 (nrw_bool (by omega)) (1) hP hD (show (97 ≤ ch ∧ ch ≤ 122 ∧ 1 = 0 ∧ 0 = mT (ch - 97)) ∨ ((ch < 97 ∨ 122 < ch) ∧ 1 = 1 ∧ 0 = 0) from by omega)
    · refine lv_iconst (v := iI 0) hx hb dMo_isText_13 rfl ?_
      refine lv_goto (tgt := 18) hx hb dMo_isText_14 (by decide) ?_
      refine va_put (D := (dC, dI)) (ci := 7) (v := .int (iI 0)) (ty := .int) (C := "MacroReckonerModel") (T := TMo) (N := 23) hx hb hts inMo tyMo tyMo_ok nmMo hown hK hP hD hS 0 rfl rfl 0 (by decide) (hts _ wt4_58) (fun _ h9 => h9) rfl (by decide +kernel) rfl rfl (Nat.le_of_ble_eq_true rfl) dMo_isText_18 (fun H locs hP hD hS => ?_)
      have hP : va_P (dC, dI) vwCl (wMo dA mo 0 lf hg kk tx pn tk fm tO tl mI mT mS mC mL mB mF mU mX mP mK mD mZ []) H := hP
      have hD : va_D A (wMo dA mo 0 lf hg kk tx pn tk fm tO tl mI mT mS mC mL mB mF mU mX mP mK mD mZ []) := hD
      refine lv_aload_n hx hb dMo_isText_21 rfl (lv_at hl 0 rfl) ?_
      refine va_get (D := (dC, dI)) (ci := 7) (v := .int (iI 0)) (C := "MacroReckonerModel") (T := TMo) (N := 23) hx hb hts inMo hown hK hP 0 rfl rfl 0 (by decide) (hts _ wt4_58) (fun _ h9 => h9) rfl dMo_isText_22 ?_
      refine iv_if_ne (tgt := 44) hx hb dMo_isText_25 (by decide) ⟨by decide, by decide⟩ (fun hc25 => absurd hc25 (by omega)) (fun hc25 => ?_)
      have hb9 := hbo (ch - 97) (by omega) (by omega)
      refine lv_aload_n hx hb dMo_isText_28 rfl (lv_at hl 0 rfl) ?_
      refine va_get (D := (dC, dI)) (ci := 7) (v := .ref (mo + 2)) (C := "MacroReckonerModel") (T := TMo) (N := 23) hx hb hts inMo hown hK hP 0 rfl rfl 3 (by decide) (hts _ wt4_61) (fun _ h9 => h9) rfl dMo_isText_29 ?_
      refine lv_iload_n hx hb dMo_isText_32 rfl (lv_at hl 1 rfl) ?_
      refine lv_bipush (v := iI 97) hx hb dMo_isText_33 (by decide) ?_
      refine iv_isub hx hb dMo_isText_35 ?_
      refine iv_zald hx hb hK hP 2 2 rfl rfl (by decide) dMo_isText_36 (by omega) (by omega) ?_
      refine iv_if_eq (tgt := 44) hx hb dMo_isText_37 (by decide) ⟨by omega, by omega⟩ (fun hc37 => ?_) (fun hc37 => ?_)
      · refine lv_iconst (v := iI 0) hx hb dMo_isText_44 rfl ?_
        exact rt_z hx hb hr hlocks hK hS dMo_isText_45 (nrw_bool (by omega)) (0) hP hD (show (97 ≤ ch ∧ ch ≤ 122 ∧ 0 = 0 ∧ 0 = mT (ch - 97)) ∨ ((ch < 97 ∨ 122 < ch) ∧ 0 = 1 ∧ 0 = 0) from by omega)
      · refine lv_iconst (v := iI 1) hx hb dMo_isText_40 rfl ?_
        refine lv_goto (tgt := 45) hx hb dMo_isText_41 (by decide) ?_
        exact rt_z hx hb hr hlocks hK hS dMo_isText_45 (nrw_bool (by omega)) (0) hP hD (show (97 ≤ ch ∧ ch ≤ 122 ∧ 0 = 0 ∧ 1 = mT (ch - 97)) ∨ ((ch < 97 ∨ 122 < ch) ∧ 0 = 1 ∧ 1 = 0) from by omega)

theorem dMo_charAt_0 : decode prog_9_method_61_code 0 = .ok (.aload_n 0, 1) := by decide +kernel
theorem dMo_charAt_1 : decode prog_9_method_61_code 1 = .ok (.iconst 0, 1) := by decide +kernel
theorem dMo_charAt_2 : decode prog_9_method_61_code 2 = .ok (.putfield 50, 3) := by decide +kernel
theorem dMo_charAt_5 : decode prog_9_method_61_code 5 = .ok (.iload_n 1, 1) := by decide +kernel
theorem dMo_charAt_6 : decode prog_9_method_61_code 6 = .ok (.ifCond .lt 11, 3) := by decide +kernel
theorem dMo_charAt_9 : decode prog_9_method_61_code 9 = .ok (.iload_n 1, 1) := by decide +kernel
theorem dMo_charAt_10 : decode prog_9_method_61_code 10 = .ok (.aload_n 0, 1) := by decide +kernel
theorem dMo_charAt_11 : decode prog_9_method_61_code 11 = .ok (.getfield 114, 3) := by decide +kernel
theorem dMo_charAt_14 : decode prog_9_method_61_code 14 = .ok (.if_icmp .lt 7, 3) := by decide +kernel
theorem dMo_charAt_17 : decode prog_9_method_61_code 17 = .ok (.iconst 0, 1) := by decide +kernel
theorem dMo_charAt_18 : decode prog_9_method_61_code 18 = .ok (.goto 10, 3) := by decide +kernel
theorem dMo_charAt_21 : decode prog_9_method_61_code 21 = .ok (.aload_n 0, 1) := by decide +kernel
theorem dMo_charAt_22 : decode prog_9_method_61_code 22 = .ok (.getfield 38, 3) := by decide +kernel
theorem dMo_charAt_25 : decode prog_9_method_61_code 25 = .ok (.iload_n 1, 1) := by decide +kernel
theorem dMo_charAt_26 : decode prog_9_method_61_code 26 = .ok (.iaload, 1) := by decide +kernel
theorem dMo_charAt_27 : decode prog_9_method_61_code 27 = .ok (.i2c, 1) := by decide +kernel
theorem dMo_charAt_28 : decode prog_9_method_61_code 28 = .ok (.ireturn, 1) := by decide +kernel
abbrev qMo_charAt (dC : Nat → ClassId) (dI : Nat → Nat → Nat) (dA : Nat → ClassId) (mo : Nat) (ft : Int) (lf : Int) (hg : Int) (kk : Int) (tx : Int) (pn : Int) (tk : Int) (fm : Int) (tO : Int) (tl : Int) (mI : Int → Int) (mT : Int → Int) (mS : Int → Int) (mC : Int → Int) (mL : Int → Int) (mB : Int → Int) (mF : Int → Int) (mU : Int → Int) (mX : Int → Int) (mP : Int → Int) (mK : Int → Int) (mD : Int → Int) (mZ : Int → Int) (p9 : Int) (A : Nat → Prop) : Array Value → State → Outcome → State → Prop := QI (dC, dI) vwCl (tyA dA) (fun (r : Int) (v_ : Unit) => (0 ≤ p9 ∧ p9 < pn ∧ r = mP p9) ∨ ((p9 < 0 ∨ pn ≤ p9) ∧ r = 0)) (fun (v_ : Unit) => wMo dA mo 0 lf hg kk tx pn tk fm tO tl mI mT mS mC mL mB mF mU mX mP mK mD mZ []) A
abbrev rmMo_charAt : Room := { frames := 0, cells := 0, slots := 0, locals := 0 }
set_option maxRecDepth 100000 in
set_option maxHeartbeats 1000000 in
theorem cMo_charAt (l : Launch) (dC : Nat → ClassId) (dI : Nat → Nat → Nat) (dA : Nat → ClassId) (mo : Nat) (ft : Int) (lf : Int) (hg : Int) (kk : Int) (tx : Int) (pn : Int) (tk : Int) (fm : Int) (tO : Int) (tl : Int) (mI : Int → Int) (mT : Int → Int) (mS : Int → Int) (mC : Int → Int) (mL : Int → Int) (mB : Int → Int) (mF : Int → Int) (mU : Int → Int) (mX : Int → Int) (mP : Int → Int) (mK : Int → Int) (mD : Int → Int) (mZ : Int → Int) (p9 : Int) (hp9 : r32 p9) (hpn : 0 ≤ pn ∧ pn ≤ 200) (hpc : ∀ j, 0 ≤ j → j < pn → 0 ≤ mP j ∧ mP j < 65536) (sz : Nat) : Met l yMo_charAt wsMo_charAt rmMo_charAt (PC (dC, dI) vwCl (tyA dA) XN [.ref mo, .int (iI p9)] (wMo dA mo ft lf hg kk tx pn tk fm tO tl mI mT mS mC mL mB mF mU mX mP mK mD mZ []) sz) (qMo_charAt dC dI dA mo ft lf hg kk tx pn tk fm tO tl mI mT mS mC mL mB mF mU mX mP mK mD mZ p9 (va_A (wMo dA mo ft lf hg kk tx pn tk fm tO tl mI mT mS mC mL mB mF mU mX mP mK mD mZ []) sz)) 0 0 (va_A (wMo dA mo ft lf hg kk tx pn tk fm tO tl mI mT mS mC mL mB mF mU mX mP mK mD mZ []) sz) := by
  refine met_of (cc := prog_9_method_61_code) (maxL := 2) (ret := (some .char)) (Qc := qMo_charAt dC dI dA mo ft lf hg kk tx pn tk fm tO tl mI mT mS mC mL mB mF mU mX mP mK mD mZ p9) XN_ok (by decide) rfl (Nat.le_of_ble_eq_true rfl) ?_
  intro p e s m below meth c ls A hx hb hr hml hown hts hlocks hnm hK hP hD hA hX hS hl
  have hl : lv_has ls 2 [(0, .ref mo), (1, .int (iI p9))] := hl
  have hown : s.vm.findClass "MacroReckonerModel" = some m.cls := hown
  obtain ⟨H, hH⟩ : ∃ H : Heap, H = s.heap := ⟨_, rfl⟩
  obtain ⟨locs, hlo⟩ : ∃ L : List Loc, L = [] := ⟨_, rfl⟩
  have hP : va_P (dC, dI) vwCl (wMo dA mo ft lf hg kk tx pn tk fm tO tl mI mT mS mC mL mB mF mU mX mP mK mD mZ []) H := hH ▸ hP
  have hS : va_S A s.heap H locs := by rw [hH, hlo]; exact hS
  suffices hgo : W p l e rmMo_charAt s m [.ref mo, .int (iI p9)].toArray below meth c H locs 0 0 (MQ below (qMo_charAt dC dI dA mo ft lf hg kk tx pn tk fm tO tl mI mT mS mC mL mB mF mU mX mP mK mD mZ p9 A) [.ref mo, .int (iI p9)].toArray s 0 0 A) (F0 m 0 ls []) by rw [hH, hlo] at hgo; exact hgo
  clear hH hlo
  refine lv_aload_n hx hb dMo_charAt_0 rfl (lv_at hl 0 rfl) ?_
  refine lv_iconst (v := iI 0) hx hb dMo_charAt_1 rfl ?_
  refine va_put (D := (dC, dI)) (ci := 7) (v := .int (iI 0)) (ty := .int) (C := "MacroReckonerModel") (T := TMo) (N := 23) hx hb hts inMo tyMo tyMo_ok nmMo hown hK hP hD hS 0 rfl rfl 0 (by decide) (hts _ wt4_58) (fun _ h9 => h9) rfl (by decide +kernel) rfl rfl (Nat.le_of_ble_eq_true rfl) dMo_charAt_2 (fun H locs hP hD hS => ?_)
  have hP : va_P (dC, dI) vwCl (wMo dA mo 0 lf hg kk tx pn tk fm tO tl mI mT mS mC mL mB mF mU mX mP mK mD mZ []) H := hP
  have hD : va_D A (wMo dA mo 0 lf hg kk tx pn tk fm tO tl mI mT mS mC mL mB mF mU mX mP mK mD mZ []) := hD
  refine lv_iload_n hx hb dMo_charAt_5 rfl (lv_at hl 1 rfl) ?_
  refine iv_if_lt (tgt := 17) hx hb dMo_charAt_6 (by decide) ⟨by omega, by omega⟩ (fun hc6 => ?_) (fun hc6 => ?_)
  · refine lv_iconst (v := iI 0) hx hb dMo_charAt_17 rfl ?_
    refine lv_goto (tgt := 28) hx hb dMo_charAt_18 (by decide) ?_
    exact rt_z hx hb hr hlocks hK hS dMo_charAt_28 (nrw_char (by omega) (by omega)) () hP hD (show (0 ≤ p9 ∧ p9 < pn ∧ 0 = mP p9) ∨ ((p9 < 0 ∨ pn ≤ p9) ∧ 0 = 0) from by omega)
  · refine lv_iload_n hx hb dMo_charAt_9 rfl (lv_at hl 1 rfl) ?_
    refine lv_aload_n hx hb dMo_charAt_10 rfl (lv_at hl 0 rfl) ?_
    refine va_get (D := (dC, dI)) (ci := 7) (v := .int (iI pn)) (C := "MacroReckonerModel") (T := TMo) (N := 23) hx hb hts inMo hown hK hP 0 rfl rfl 14 (by decide) (hts _ wt4_72) (fun _ h9 => h9) rfl dMo_charAt_11 ?_
    refine iv_icmp_lt (tgt := 21) hx hb dMo_charAt_14 (by decide) ⟨by omega, by omega⟩ ⟨by omega, by omega⟩ (fun hc14 => ?_) (fun hc14 => ?_)
    · have hc9 := hpc p9 (by omega) (by omega)
      refine lv_aload_n hx hb dMo_charAt_21 rfl (lv_at hl 0 rfl) ?_
      refine va_get (D := (dC, dI)) (ci := 7) (v := .ref (mo + 10)) (C := "MacroReckonerModel") (T := TMo) (N := 23) hx hb hts inMo hown hK hP 0 rfl rfl 15 (by decide) (hts _ wt4_73) (fun _ h9 => h9) rfl dMo_charAt_22 ?_
      refine lv_iload_n hx hb dMo_charAt_25 rfl (lv_at hl 1 rfl) ?_
      refine iv_iald hx hb hK hP 10 0 rfl rfl (by decide) dMo_charAt_26 (by omega) (by omega) ?_
      refine iv_i2c hx hb dMo_charAt_27 (by omega) (by omega) ?_
      exact rt_z hx hb hr hlocks hK hS dMo_charAt_28 (nrw_char (by omega) (by omega)) () hP hD (show (0 ≤ p9 ∧ p9 < pn ∧ (mP p9) = mP p9) ∨ ((p9 < 0 ∨ pn ≤ p9) ∧ (mP p9) = 0) from by omega)
    · refine lv_iconst (v := iI 0) hx hb dMo_charAt_17 rfl ?_
      refine lv_goto (tgt := 28) hx hb dMo_charAt_18 (by decide) ?_
      exact rt_z hx hb hr hlocks hK hS dMo_charAt_28 (nrw_char (by omega) (by omega)) () hP hD (show (0 ≤ p9 ∧ p9 < pn ∧ 0 = mP p9) ∨ ((p9 < 0 ∨ pn ≤ p9) ∧ 0 = 0) from by omega)
