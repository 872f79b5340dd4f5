theorem dMo_widthOf_0 : decode prog_9_method_28_code 0 = .ok (.aload_n 0, 1) := by decide +kernel
theorem dMo_widthOf_1 : decode prog_9_method_28_code 1 = .ok (.getfield 13, 3) := by decide +kernel
theorem dMo_widthOf_4 : decode prog_9_method_28_code 4 = .ok (.iload_n 1, 1) := by decide +kernel
theorem dMo_widthOf_5 : decode prog_9_method_28_code 5 = .ok (.baload, 1) := by decide +kernel
theorem dMo_widthOf_6 : decode prog_9_method_28_code 6 = .ok (.ifCond .eq 10, 3) := by decide +kernel
theorem dMo_widthOf_9 : decode prog_9_method_28_code 9 = .ok (.aload_n 0, 1) := by decide +kernel
theorem dMo_widthOf_10 : decode prog_9_method_28_code 10 = .ok (.getfield 23, 3) := by decide +kernel
theorem dMo_widthOf_13 : decode prog_9_method_28_code 13 = .ok (.iload_n 1, 1) := by decide +kernel
theorem dMo_widthOf_14 : decode prog_9_method_28_code 14 = .ok (.iaload, 1) := by decide +kernel
theorem dMo_widthOf_15 : decode prog_9_method_28_code 15 = .ok (.ireturn, 1) := by decide +kernel
theorem dMo_widthOf_16 : decode prog_9_method_28_code 16 = .ok (.aload_n 0, 1) := by decide +kernel
theorem dMo_widthOf_17 : decode prog_9_method_28_code 17 = .ok (.getfield 17, 3) := by decide +kernel
theorem dMo_widthOf_20 : decode prog_9_method_28_code 20 = .ok (.iload_n 1, 1) := by decide +kernel
theorem dMo_widthOf_21 : decode prog_9_method_28_code 21 = .ok (.iaload, 1) := by decide +kernel
theorem dMo_widthOf_22 : decode prog_9_method_28_code 22 = .ok (.ifCond .ne 5, 3) := by decide +kernel
theorem dMo_widthOf_25 : decode prog_9_method_28_code 25 = .ok (.iconst 1, 1) := by decide +kernel
theorem dMo_widthOf_26 : decode prog_9_method_28_code 26 = .ok (.ireturn, 1) := by decide +kernel
theorem dMo_widthOf_27 : decode prog_9_method_28_code 27 = .ok (.aload_n 0, 1) := by decide +kernel
theorem dMo_widthOf_28 : decode prog_9_method_28_code 28 = .ok (.getfield 20, 3) := by decide +kernel
theorem dMo_widthOf_31 : decode prog_9_method_28_code 31 = .ok (.iload_n 1, 1) := by decide +kernel
theorem dMo_widthOf_32 : decode prog_9_method_28_code 32 = .ok (.iaload, 1) := by decide +kernel
theorem dMo_widthOf_33 : decode prog_9_method_28_code 33 = .ok (.istore_n 2, 1) := by decide +kernel
theorem dMo_widthOf_34 : decode prog_9_method_28_code 34 = .ok (.aload_n 0, 1) := by decide +kernel
theorem dMo_widthOf_35 : decode prog_9_method_28_code 35 = .ok (.getfield 17, 3) := by decide +kernel
theorem dMo_widthOf_38 : decode prog_9_method_28_code 38 = .ok (.iload_n 1, 1) := by decide +kernel
theorem dMo_widthOf_39 : decode prog_9_method_28_code 39 = .ok (.iaload, 1) := by decide +kernel
theorem dMo_widthOf_40 : decode prog_9_method_28_code 40 = .ok (.ifCond .ge 7, 3) := by decide +kernel
theorem dMo_widthOf_43 : decode prog_9_method_28_code 43 = .ok (.iconst 1, 1) := by decide +kernel
theorem dMo_widthOf_44 : decode prog_9_method_28_code 44 = .ok (.goto 4, 3) := by decide +kernel
theorem dMo_widthOf_47 : decode prog_9_method_28_code 47 = .ok (.iconst 0, 1) := by decide +kernel
theorem dMo_widthOf_48 : decode prog_9_method_28_code 48 = .ok (.aload_n 0, 1) := by decide +kernel
theorem dMo_widthOf_49 : decode prog_9_method_28_code 49 = .ok (.getfield 23, 3) := by decide +kernel
theorem dMo_widthOf_52 : decode prog_9_method_28_code 52 = .ok (.iload_n 1, 1) := by decide +kernel
theorem dMo_widthOf_53 : decode prog_9_method_28_code 53 = .ok (.iaload, 1) := by decide +kernel
theorem dMo_widthOf_54 : decode prog_9_method_28_code 54 = .ok (.iload_n 2, 1) := by decide +kernel
theorem dMo_widthOf_55 : decode prog_9_method_28_code 55 = .ok (.if_icmp .le 14, 3) := by decide +kernel
theorem dMo_widthOf_58 : decode prog_9_method_28_code 58 = .ok (.aload_n 0, 1) := by decide +kernel
theorem dMo_widthOf_59 : decode prog_9_method_28_code 59 = .ok (.getfield 23, 3) := by decide +kernel
theorem dMo_widthOf_62 : decode prog_9_method_28_code 62 = .ok (.iload_n 1, 1) := by decide +kernel
theorem dMo_widthOf_63 : decode prog_9_method_28_code 63 = .ok (.iaload, 1) := by decide +kernel
theorem dMo_widthOf_64 : decode prog_9_method_28_code 64 = .ok (.iload_n 2, 1) := by decide +kernel
theorem dMo_widthOf_65 : decode prog_9_method_28_code 65 = .ok (.isub, 1) := by decide +kernel
theorem dMo_widthOf_66 : decode prog_9_method_28_code 66 = .ok (.goto 4, 3) := by decide +kernel
theorem dMo_widthOf_69 : decode prog_9_method_28_code 69 = .ok (.iconst 0, 1) := by decide +kernel
theorem dMo_widthOf_70 : decode prog_9_method_28_code 70 = .ok (.iadd, 1) := by decide +kernel
theorem dMo_widthOf_71 : decode prog_9_method_28_code 71 = .ok (.iload_n 2, 1) := by decide +kernel
theorem dMo_widthOf_72 : decode prog_9_method_28_code 72 = .ok (.ifCond .le 9, 3) := by decide +kernel
theorem dMo_widthOf_75 : decode prog_9_method_28_code 75 = .ok (.iload_n 2, 1) := by decide +kernel
theorem dMo_widthOf_76 : decode prog_9_method_28_code 76 = .ok (.iconst 1, 1) := by decide +kernel
theorem dMo_widthOf_77 : decode prog_9_method_28_code 77 = .ok (.iadd, 1) := by decide +kernel
theorem dMo_widthOf_78 : decode prog_9_method_28_code 78 = .ok (.goto 4, 3) := by decide +kernel
theorem dMo_widthOf_81 : decode prog_9_method_28_code 81 = .ok (.iconst 0, 1) := by decide +kernel
theorem dMo_widthOf_82 : decode prog_9_method_28_code 82 = .ok (.iadd, 1) := by decide +kernel
theorem dMo_widthOf_83 : decode prog_9_method_28_code 83 = .ok (.ireturn, 1) := by decide +kernel
abbrev qMo_widthOf (dC : Nat → ClassId) (dI : Nat → Nat → Nat) (dA : Nat → ClassId) (mo : Nat) (ft : Int) (lf : Int) (hg : Int) (kk : Int) (tx : Int) (pn : Int) (tk : Int) (fm : Int) (tO : Int) (tl : Int) (mI : Int → Int) (mT : Int → Int) (mS : Int → Int) (mC : Int → Int) (mL : Int → Int) (mB : Int → Int) (mF : Int → Int) (mU : Int → Int) (mX : Int → Int) (mP : Int → Int) (mK : Int → Int) (mD : Int → Int) (mZ : Int → Int) (x : Int) (xa : Th) (A : Nat → Prop) : Array Value → State → Outcome → State → Prop := QI (dC, dI) vwCl (tyA dA) (fun (r : Int) (v_ : Unit) => r = thW xa ∧ 0 ≤ r ∧ r ≤ 102) (fun (v_ : Unit) => wMo dA mo ft lf hg kk tx pn tk fm tO tl mI mT mS mC mL mB mF mU mX mP mK mD mZ []) A
abbrev rmMo_widthOf : Room := { frames := 0, cells := 0, slots := 0, locals := 0 }
set_option maxRecDepth 100000 in
set_option maxHeartbeats 1000000 in
theorem cMo_widthOf (l : Launch) (dC : Nat → ClassId) (dI : Nat → Nat → Nat) (dA : Nat → ClassId) (mo : Nat) (ft : Int) (lf : Int) (hg : Int) (kk : Int) (tx : Int) (pn : Int) (tk : Int) (fm : Int) (tO : Int) (tl : Int) (mI : Int → Int) (mT : Int → Int) (mS : Int → Int) (mC : Int → Int) (mL : Int → Int) (mB : Int → Int) (mF : Int → Int) (mU : Int → Int) (mX : Int → Int) (mP : Int → Int) (mK : Int → Int) (mD : Int → Int) (mZ : Int → Int) (x : Int) (xa : Th) (hxy : 0 ≤ x ∧ x ≤ 46) (hTa : MT mT mS mC mL mB x xa) (sz : Nat) : Met l yMo_widthOf wsMo_widthOf rmMo_widthOf (PC (dC, dI) vwCl (tyA dA) XN [.ref mo, .int (iI x)] (wMo dA mo ft lf hg kk tx pn tk fm tO tl mI mT mS mC mL mB mF mU mX mP mK mD mZ []) sz) (qMo_widthOf dC dI dA mo ft lf hg kk tx pn tk fm tO tl mI mT mS mC mL mB mF mU mX mP mK mD mZ x xa (va_A (wMo dA mo ft lf hg kk tx pn tk fm tO tl mI mT mS mC mL mB mF mU mX mP mK mD mZ []) sz)) 0 0 (va_A (wMo dA mo ft lf hg kk tx pn tk fm tO tl mI mT mS mC mL mB mF mU mX mP mK mD mZ []) sz) := by
  refine met_of (cc := prog_9_method_28_code) (maxL := 3) (ret := (some .int)) (Qc := qMo_widthOf dC dI dA mo ft lf hg kk tx pn tk fm tO tl mI mT mS mC mL mB mF mU mX mP mK mD mZ x xa) XN_ok (by decide) rfl (Nat.le_of_ble_eq_true rfl) ?_
  intro p e s m below meth c ls A hx hb hr hml hown hts hlocks hnm hK hP hD hA hX hS hl
  have hl : lv_has ls 3 [(0, .ref mo), (1, .int (iI x))] := hl
  have hown : s.vm.findClass "MacroReckonerModel" = some m.cls := hown
  obtain ⟨H, hH⟩ : ∃ H : Heap, H = s.heap := ⟨_, rfl⟩
  obtain ⟨locs, hlo⟩ : ∃ L : List Loc, L = [] := ⟨_, rfl⟩
  have hP : va_P (dC, dI) vwCl (wMo dA mo ft lf hg kk tx pn tk fm tO tl mI mT mS mC mL mB mF mU mX mP mK mD mZ []) H := hH ▸ hP
  have hS : va_S A s.heap H locs := by rw [hH, hlo]; exact hS
  suffices hgo : W p l e rmMo_widthOf s m [.ref mo, .int (iI x)].toArray below meth c H locs 0 0 (MQ below (qMo_widthOf dC dI dA mo ft lf hg kk tx pn tk fm tO tl mI mT mS mC mL mB mF mU mX mP mK mD mZ x xa A) [.ref mo, .int (iI x)].toArray s 0 0 A) (F0 m 0 ls []) by rw [hH, hlo] at hgo; exact hgo
  clear hH hlo
  have hbx := MT_b hTa
  refine lv_aload_n hx hb dMo_widthOf_0 rfl (lv_at hl 0 rfl) ?_
  refine va_get (D := (dC, dI)) (ci := 7) (v := .ref (mo + 2)) (C := "MacroReckonerModel") (T := TMo) (N := 23) hx hb hts inMo hown hK hP 0 rfl rfl 3 (by decide) (hts _ wt4_61) (fun _ h9 => h9) rfl dMo_widthOf_1 ?_
  refine lv_iload_n hx hb dMo_widthOf_4 rfl (lv_at hl 1 rfl) ?_
  refine iv_zald hx hb hK hP 2 2 rfl rfl (by decide) dMo_widthOf_5 (by omega) (by omega) ?_
  refine iv_if_eq (tgt := 16) hx hb dMo_widthOf_6 (by decide) ⟨by omega, by omega⟩ (fun hc6 => ?_) (fun hc6 => ?_)
  · refine lv_aload_n hx hb dMo_widthOf_16 rfl (lv_at hl 0 rfl) ?_
    refine va_get (D := (dC, dI)) (ci := 7) (v := .ref (mo + 3)) (C := "MacroReckonerModel") (T := TMo) (N := 23) hx hb hts inMo hown hK hP 0 rfl rfl 4 (by decide) (hts _ wt4_62) (fun _ h9 => h9) rfl dMo_widthOf_17 ?_
    refine lv_iload_n hx hb dMo_widthOf_20 rfl (lv_at hl 1 rfl) ?_
    refine iv_iald hx hb hK hP 3 0 rfl rfl (by decide) dMo_widthOf_21 (by omega) (by omega) ?_
    refine iv_if_ne (tgt := 27) hx hb dMo_widthOf_22 (by decide) ⟨by omega, by omega⟩ (fun hc22 => ?_) (fun hc22 => ?_)
    · refine lv_aload_n hx hb dMo_widthOf_27 rfl (lv_at hl 0 rfl) ?_
      refine va_get (D := (dC, dI)) (ci := 7) (v := .ref (mo + 4)) (C := "MacroReckonerModel") (T := TMo) (N := 23) hx hb hts inMo hown hK hP 0 rfl rfl 5 (by decide) (hts _ wt4_63) (fun _ h9 => h9) rfl dMo_widthOf_28 ?_
      refine lv_iload_n hx hb dMo_widthOf_31 rfl (lv_at hl 1 rfl) ?_
      refine iv_iald hx hb hK hP 4 0 rfl rfl (by decide) dMo_widthOf_32 (by omega) (by omega) ?_
      refine lv_istore_n (lv' := [(2, .int (iI (mC x))), (0, .ref mo), (1, .int (iI x))]) hx hb dMo_widthOf_33 rfl hl (by decide) rfl (fun ls hl => ?_)
      refine lv_aload_n hx hb dMo_widthOf_34 rfl (lv_at hl 1 rfl) ?_
      refine va_get (D := (dC, dI)) (ci := 7) (v := .ref (mo + 3)) (C := "MacroReckonerModel") (T := TMo) (N := 23) hx hb hts inMo hown hK hP 0 rfl rfl 4 (by decide) (hts _ wt4_62) (fun _ h9 => h9) rfl dMo_widthOf_35 ?_
      refine lv_iload_n hx hb dMo_widthOf_38 rfl (lv_at hl 2 rfl) ?_
      refine iv_iald hx hb hK hP 3 0 rfl rfl (by decide) dMo_widthOf_39 (by omega) (by omega) ?_
      refine iv_if_ge (tgt := 47) hx hb dMo_widthOf_40 (by decide) ⟨by omega, by omega⟩ (fun hc40 => ?_) (fun hc40 => ?_)
      · refine lv_iconst (v := iI 0) hx hb dMo_widthOf_47 rfl ?_
        refine lv_aload_n hx hb dMo_widthOf_48 rfl (lv_at hl 1 rfl) ?_
        refine va_get (D := (dC, dI)) (ci := 7) (v := .ref (mo + 5)) (C := "MacroReckonerModel") (T := TMo) (N := 23) hx hb hts inMo hown hK hP 0 rfl rfl 6 (by decide) (hts _ wt4_64) (fun _ h9 => h9) rfl dMo_widthOf_49 ?_
        refine lv_iload_n hx hb dMo_widthOf_52 rfl (lv_at hl 2 rfl) ?_
        refine iv_iald hx hb hK hP 5 0 rfl rfl (by decide) dMo_widthOf_53 (by omega) (by omega) ?_
        refine lv_iload_n hx hb dMo_widthOf_54 rfl (lv_at hl 0 rfl) ?_
        refine iv_icmp_le (tgt := 69) hx hb dMo_widthOf_55 (by decide) ⟨by omega, by omega⟩ ⟨by omega, by omega⟩ (fun hc55 => ?_) (fun hc55 => ?_)
        · refine lv_iconst (v := iI 0) hx hb dMo_widthOf_69 rfl ?_
          refine iv_iadd hx hb dMo_widthOf_70 ?_
          refine lv_iload_n hx hb dMo_widthOf_71 rfl (lv_at hl 0 rfl) ?_
          refine iv_if_le (tgt := 81) hx hb dMo_widthOf_72 (by decide) ⟨by omega, by omega⟩ (fun hc72 => ?_) (fun hc72 => ?_)
          · refine lv_iconst (v := iI 0) hx hb dMo_widthOf_81 rfl ?_
            refine iv_iadd hx hb dMo_widthOf_82 ?_
            exact rt_i hx hb hr hlocks hK hS dMo_widthOf_83 () hP hD (show ((0 + 0) + 0) = thW xa ∧ 0 ≤ ((0 + 0) + 0) ∧ ((0 + 0) + 0) ≤ 102 from by obtain ⟨ng, LL, h1, h2, h3, h4, -, h6, h7, -⟩ := th_n hTa (by omega) (by omega); rw [h4]; split <;> omega)
          · refine lv_iload_n hx hb dMo_widthOf_75 rfl (lv_at hl 0 rfl) ?_
            refine lv_iconst (v := iI 1) hx hb dMo_widthOf_76 rfl ?_
            refine iv_iadd hx hb dMo_widthOf_77 ?_
            refine lv_goto (tgt := 82) hx hb dMo_widthOf_78 (by decide) ?_
            refine iv_iadd hx hb dMo_widthOf_82 ?_
            exact rt_i hx hb hr hlocks hK hS dMo_widthOf_83 () hP hD (show ((0 + 0) + ((mC x) + 1)) = thW xa ∧ 0 ≤ ((0 + 0) + ((mC x) + 1)) ∧ ((0 + 0) + ((mC x) + 1)) ≤ 102 from by obtain ⟨ng, LL, h1, h2, h3, h4, -, h6, h7, -⟩ := th_n hTa (by omega) (by omega); rw [h4]; split <;> omega)
        · refine lv_aload_n hx hb dMo_widthOf_58 rfl (lv_at hl 1 rfl) ?_
          refine va_get (D := (dC, dI)) (ci := 7) (v := .ref (mo + 5)) (C := "MacroReckonerModel") (T := TMo) (N := 23) hx hb hts inMo hown hK hP 0 rfl rfl 6 (by decide) (hts _ wt4_64) (fun _ h9 => h9) rfl dMo_widthOf_59 ?_
          refine lv_iload_n hx hb dMo_widthOf_62 rfl (lv_at hl 2 rfl) ?_
          refine iv_iald hx hb hK hP 5 0 rfl rfl (by decide) dMo_widthOf_63 (by omega) (by omega) ?_
          refine lv_iload_n hx hb dMo_widthOf_64 rfl (lv_at hl 0 rfl) ?_
          refine iv_isub hx hb dMo_widthOf_65 ?_
          refine lv_goto (tgt := 70) hx hb dMo_widthOf_66 (by decide) ?_
          refine iv_iadd hx hb dMo_widthOf_70 ?_
          refine lv_iload_n hx hb dMo_widthOf_71 rfl (lv_at hl 0 rfl) ?_
          refine iv_if_le (tgt := 81) hx hb dMo_widthOf_72 (by decide) ⟨by omega, by omega⟩ (fun hc72 => ?_) (fun hc72 => ?_)
          · refine lv_iconst (v := iI 0) hx hb dMo_widthOf_81 rfl ?_
            refine iv_iadd hx hb dMo_widthOf_82 ?_
            exact rt_i hx hb hr hlocks hK hS dMo_widthOf_83 () hP hD (show ((0 + ((mL x) - (mC x))) + 0) = thW xa ∧ 0 ≤ ((0 + ((mL x) - (mC x))) + 0) ∧ ((0 + ((mL x) - (mC x))) + 0) ≤ 102 from by obtain ⟨ng, LL, h1, h2, h3, h4, -, h6, h7, -⟩ := th_n hTa (by omega) (by omega); rw [h4]; split <;> omega)
          · refine lv_iload_n hx hb dMo_widthOf_75 rfl (lv_at hl 0 rfl) ?_
            refine lv_iconst (v := iI 1) hx hb dMo_widthOf_76 rfl ?_
            refine iv_iadd hx hb dMo_widthOf_77 ?_
            refine lv_goto (tgt := 82) hx hb dMo_widthOf_78 (by decide) ?_
            refine iv_iadd hx hb dMo_widthOf_82 ?_
            exact rt_i hx hb hr hlocks hK hS dMo_widthOf_83 () hP hD (show ((0 + ((mL x) - (mC x))) + ((mC x) + 1)) = thW xa ∧ 0 ≤ ((0 + ((mL x) - (mC x))) + ((mC x) + 1)) ∧ ((0 + ((mL x) - (mC x))) + ((mC x) + 1)) ≤ 102 from by obtain ⟨ng, LL, h1, h2, h3, h4, -, h6, h7, -⟩ := th_n hTa (by omega) (by omega); rw [h4]; split <;> omega)
      · refine lv_iconst (v := iI 1) hx hb dMo_widthOf_43 rfl ?_
        refine lv_goto (tgt := 48) hx hb dMo_widthOf_44 (by decide) ?_
        refine lv_aload_n hx hb dMo_widthOf_48 rfl (lv_at hl 1 rfl) ?_
        refine va_get (D := (dC, dI)) (ci := 7) (v := .ref (mo + 5)) (C := "MacroReckonerModel") (T := TMo) (N := 23) hx hb hts inMo hown hK hP 0 rfl rfl 6 (by decide) (hts _ wt4_64) (fun _ h9 => h9) rfl dMo_widthOf_49 ?_
        refine lv_iload_n hx hb dMo_widthOf_52 rfl (lv_at hl 2 rfl) ?_
        refine iv_iald hx hb hK hP 5 0 rfl rfl (by decide) dMo_widthOf_53 (by omega) (by omega) ?_
        refine lv_iload_n hx hb dMo_widthOf_54 rfl (lv_at hl 0 rfl) ?_
        refine iv_icmp_le (tgt := 69) hx hb dMo_widthOf_55 (by decide) ⟨by omega, by omega⟩ ⟨by omega, by omega⟩ (fun hc55 => ?_) (fun hc55 => ?_)
        · refine lv_iconst (v := iI 0) hx hb dMo_widthOf_69 rfl ?_
          refine iv_iadd hx hb dMo_widthOf_70 ?_
          refine lv_iload_n hx hb dMo_widthOf_71 rfl (lv_at hl 0 rfl) ?_
          refine iv_if_le (tgt := 81) hx hb dMo_widthOf_72 (by decide) ⟨by omega, by omega⟩ (fun hc72 => ?_) (fun hc72 => ?_)
          · refine lv_iconst (v := iI 0) hx hb dMo_widthOf_81 rfl ?_
            refine iv_iadd hx hb dMo_widthOf_82 ?_
            exact rt_i hx hb hr hlocks hK hS dMo_widthOf_83 () hP hD (show ((1 + 0) + 0) = thW xa ∧ 0 ≤ ((1 + 0) + 0) ∧ ((1 + 0) + 0) ≤ 102 from by obtain ⟨ng, LL, h1, h2, h3, h4, -, h6, h7, -⟩ := th_n hTa (by omega) (by omega); rw [h4]; split <;> omega)
          · refine lv_iload_n hx hb dMo_widthOf_75 rfl (lv_at hl 0 rfl) ?_
            refine lv_iconst (v := iI 1) hx hb dMo_widthOf_76 rfl ?_
            refine iv_iadd hx hb dMo_widthOf_77 ?_
            refine lv_goto (tgt := 82) hx hb dMo_widthOf_78 (by decide) ?_
            refine iv_iadd hx hb dMo_widthOf_82 ?_
            exact rt_i hx hb hr hlocks hK hS dMo_widthOf_83 () hP hD (show ((1 + 0) + ((mC x) + 1)) = thW xa ∧ 0 ≤ ((1 + 0) + ((mC x) + 1)) ∧ ((1 + 0) + ((mC x) + 1)) ≤ 102 from by obtain ⟨ng, LL, h1, h2, h3, h4, -, h6, h7, -⟩ := th_n hTa (by omega) (by omega); rw [h4]; split <;> omega)
        · refine lv_aload_n hx hb dMo_widthOf_58 rfl (lv_at hl 1 rfl) ?_
          refine va_get (D := (dC, dI)) (ci := 7) (v := .ref (mo + 5)) (C := "MacroReckonerModel") (T := TMo) (N := 23) hx hb hts inMo hown hK hP 0 rfl rfl 6 (by decide) (hts _ wt4_64) (fun _ h9 => h9) rfl dMo_widthOf_59 ?_
          refine lv_iload_n hx hb dMo_widthOf_62 rfl (lv_at hl 2 rfl) ?_
          refine iv_iald hx hb hK hP 5 0 rfl rfl (by decide) dMo_widthOf_63 (by omega) (by omega) ?_
          refine lv_iload_n hx hb dMo_widthOf_64 rfl (lv_at hl 0 rfl) ?_
          refine iv_isub hx hb dMo_widthOf_65 ?_
          refine lv_goto (tgt := 70) hx hb dMo_widthOf_66 (by decide) ?_
          refine iv_iadd hx hb dMo_widthOf_70 ?_
          refine lv_iload_n hx hb dMo_widthOf_71 rfl (lv_at hl 0 rfl) ?_
          refine iv_if_le (tgt := 81) hx hb dMo_widthOf_72 (by decide) ⟨by omega, by omega⟩ (fun hc72 => ?_) (fun hc72 => ?_)
          · refine lv_iconst (v := iI 0) hx hb dMo_widthOf_81 rfl ?_
            refine iv_iadd hx hb dMo_widthOf_82 ?_
            exact rt_i hx hb hr hlocks hK hS dMo_widthOf_83 () hP hD (show ((1 + ((mL x) - (mC x))) + 0) = thW xa ∧ 0 ≤ ((1 + ((mL x) - (mC x))) + 0) ∧ ((1 + ((mL x) - (mC x))) + 0) ≤ 102 from by obtain ⟨ng, LL, h1, h2, h3, h4, -, h6, h7, -⟩ := th_n hTa (by omega) (by omega); rw [h4]; split <;> omega)
          · refine lv_iload_n hx hb dMo_widthOf_75 rfl (lv_at hl 0 rfl) ?_
            refine lv_iconst (v := iI 1) hx hb dMo_widthOf_76 rfl ?_
            refine iv_iadd hx hb dMo_widthOf_77 ?_
            refine lv_goto (tgt := 82) hx hb dMo_widthOf_78 (by decide) ?_
            refine iv_iadd hx hb dMo_widthOf_82 ?_
            exact rt_i hx hb hr hlocks hK hS dMo_widthOf_83 () hP hD (show ((1 + ((mL x) - (mC x))) + ((mC x) + 1)) = thW xa ∧ 0 ≤ ((1 + ((mL x) - (mC x))) + ((mC x) + 1)) ∧ ((1 + ((mL x) - (mC x))) + ((mC x) + 1)) ≤ 102 from by obtain ⟨ng, LL, h1, h2, h3, h4, -, h6, h7, -⟩ := th_n hTa (by omega) (by omega); rw [h4]; split <;> omega)
    · refine lv_iconst (v := iI 1) hx hb dMo_widthOf_25 rfl ?_
      exact rt_i hx hb hr hlocks hK hS dMo_widthOf_26 () hP hD (show 1 = thW xa ∧ 0 ≤ 1 ∧ 1 ≤ 102 from by have h := th_0 hTa (by omega) (by omega); omega)
  · refine lv_aload_n hx hb dMo_widthOf_9 rfl (lv_at hl 0 rfl) ?_
    refine va_get (D := (dC, dI)) (ci := 7) (v := .ref (mo + 5)) (C := "MacroReckonerModel") (T := TMo) (N := 23) hx hb hts inMo hown hK hP 0 rfl rfl 6 (by decide) (hts _ wt4_64) (fun _ h9 => h9) rfl dMo_widthOf_10 ?_
    refine lv_iload_n hx hb dMo_widthOf_13 rfl (lv_at hl 1 rfl) ?_
    refine iv_iald hx hb hK hP 5 0 rfl rfl (by decide) dMo_widthOf_14 (by omega) (by omega) ?_
    exact rt_i hx hb hr hlocks hK hS dMo_widthOf_15 () hP hD (show (mL x) = thW xa ∧ 0 ≤ (mL x) ∧ (mL x) ≤ 102 from by have h := th_t hTa (by omega); omega)

theorem dMo_print_0 : decode prog_9_method_29_code 0 = .ok (.aload_n 0, 1) := by decide +kernel
theorem dMo_print_1 : decode prog_9_method_29_code 1 = .ok (.getfield 38, 3) := by decide +kernel
theorem dMo_print_4 : decode prog_9_method_29_code 4 = .ok (.aload_n 0, 1) := by decide +kernel
theorem dMo_print_5 : decode prog_9_method_29_code 5 = .ok (.getfield 114, 3) := by decide +kernel
theorem dMo_print_8 : decode prog_9_method_29_code 8 = .ok (.iload_n 1, 1) := by decide +kernel
theorem dMo_print_9 : decode prog_9_method_29_code 9 = .ok (.iastore, 1) := by decide +kernel
theorem dMo_print_10 : decode prog_9_method_29_code 10 = .ok (.aload_n 0, 1) := by decide +kernel
theorem dMo_print_11 : decode prog_9_method_29_code 11 = .ok (.dup, 1) := by decide +kernel
theorem dMo_print_12 : decode prog_9_method_29_code 12 = .ok (.getfield 114, 3) := by decide +kernel
theorem dMo_print_15 : decode prog_9_method_29_code 15 = .ok (.iconst 1, 1) := by decide +kernel
theorem dMo_print_16 : decode prog_9_method_29_code 16 = .ok (.iadd, 1) := by decide +kernel
theorem dMo_print_17 : decode prog_9_method_29_code 17 = .ok (.putfield 114, 3) := by decide +kernel
theorem dMo_print_20 : decode prog_9_method_29_code 20 = .ok (.return_, 1) := by decide +kernel
abbrev qMo_print (dC : Nat → ClassId) (dI : Nat → Nat → Nat) (dA : Nat → ClassId) (mo : Nat) (ft : Int) (lf : Int) (hg : Int) (kk : Int) (tx : Int) (pn : Int) (tk : Int) (fm : Int) (tO : Int) (tl : Int) (mI : Int → Int) (mT : Int → Int) (mS : Int → Int) (mC : Int → Int) (mL : Int → Int) (mB : Int → Int) (mF : Int → Int) (mU : Int → Int) (mX : Int → Int) (mP : Int → Int) (mK : Int → Int) (mD : Int → Int) (mZ : Int → Int) (ch : Int) (A : Nat → Prop) : Array Value → State → Outcome → State → Prop := QV (dC, dI) vwCl (tyA dA) (fun (v_ : Unit) => True) (fun (v_ : Unit) => wMo dA mo ft lf hg kk tx (pn + 1) tk fm tO tl mI mT mS mC mL mB mF mU mX (up mP pn ch) mK mD mZ []) A
abbrev rmMo_print : Room := { frames := 0, cells := 0, slots := 0, locals := 0 }
set_option maxRecDepth 100000 in
set_option maxHeartbeats 1000000 in
theorem cMo_print (l : Launch) (dC : Nat → ClassId) (dI : Nat → Nat → Nat) (dA : Nat → ClassId) (mo : Nat) (ft : Int) (lf : Int) (hg : Int) (kk : Int) (tx : Int) (pn : Int) (tk : Int) (fm : Int) (tO : Int) (tl : Int) (mI : Int → Int) (mT : Int → Int) (mS : Int → Int) (mC : Int → Int) (mL : Int → Int) (mB : Int → Int) (mF : Int → Int) (mU : Int → Int) (mX : Int → Int) (mP : Int → Int) (mK : Int → Int) (mD : Int → Int) (mZ : Int → Int) (ch : Int) (hpn : 0 ≤ pn ∧ pn < 200) (sz : Nat) : Met l yMo_print wsMo_print rmMo_print (PC (dC, dI) vwCl (tyA dA) XN [.ref mo, .int (iI ch)] (wMo dA mo ft lf hg kk tx pn tk fm tO tl mI mT mS mC mL mB mF mU mX mP mK mD mZ []) sz) (qMo_print dC dI dA mo ft lf hg kk tx pn tk fm tO tl mI mT mS mC mL mB mF mU mX mP mK mD mZ ch (va_A (wMo dA mo ft lf hg kk tx pn tk fm tO tl mI mT mS mC mL mB mF mU mX mP mK mD mZ []) sz)) 0 0 (va_A (wMo dA mo ft lf hg kk tx pn tk fm tO tl mI mT mS mC mL mB mF mU mX mP mK mD mZ []) sz) := by
  refine met_of (cc := prog_9_method_29_code) (maxL := 2) (ret := none) (Qc := qMo_print dC dI dA mo ft lf hg kk tx pn tk fm tO tl mI mT mS mC mL mB mF mU mX mP mK mD mZ ch) XN_ok (by decide) rfl (Nat.le_of_ble_eq_true rfl) ?_
  intro p e s m below meth c ls A hx hb hr hml hown hts hlocks hnm hK hP hD hA hX hS hl
  have hl : lv_has ls 2 [(0, .ref mo), (1, .int (iI ch))] := hl
  have hown : s.vm.findClass "MacroReckonerModel" = some m.cls := hown
  obtain ⟨H, hH⟩ : ∃ H : Heap, H = s.heap := ⟨_, rfl⟩
  obtain ⟨locs, hlo⟩ : ∃ L : List Loc, L = [] := ⟨_, rfl⟩
  have hP : va_P (dC, dI) vwCl (wMo dA mo ft lf hg kk tx pn tk fm tO tl mI mT mS mC mL mB mF mU mX mP mK mD mZ []) H := hH ▸ hP
  have hS : va_S A s.heap H locs := by rw [hH, hlo]; exact hS
  suffices hgo : W p l e rmMo_print s m [.ref mo, .int (iI ch)].toArray below meth c H locs 0 0 (MQ below (qMo_print dC dI dA mo ft lf hg kk tx pn tk fm tO tl mI mT mS mC mL mB mF mU mX mP mK mD mZ ch A) [.ref mo, .int (iI ch)].toArray s 0 0 A) (F0 m 0 ls []) by rw [hH, hlo] at hgo; exact hgo
  clear hH hlo
  refine lv_aload_n hx hb dMo_print_0 rfl (lv_at hl 0 rfl) ?_
  refine va_get (D := (dC, dI)) (ci := 7) (v := .ref (mo + 10)) (C := "MacroReckonerModel") (T := TMo) (N := 23) hx hb hts inMo hown hK hP 0 rfl rfl 15 (by decide) (hts _ wt4_73) (fun _ h9 => h9) rfl dMo_print_1 ?_
  refine lv_aload_n hx hb dMo_print_4 rfl (lv_at hl 0 rfl) ?_
  refine va_get (D := (dC, dI)) (ci := 7) (v := .int (iI pn)) (C := "MacroReckonerModel") (T := TMo) (N := 23) hx hb hts inMo hown hK hP 0 rfl rfl 14 (by decide) (hts _ wt4_72) (fun _ h9 => h9) rfl dMo_print_5 ?_
  refine lv_iload_n hx hb dMo_print_8 rfl (lv_at hl 1 rfl) ?_
  refine iv_iast (v := ch) hx hb hK hP hD hS 10 0 rfl rfl (by decide) dMo_print_9 (by omega) (by omega) (fun H locs hP hD hS => ?_)
  have hP : va_P (dC, dI) vwCl (wMo dA mo ft lf hg kk tx pn tk fm tO tl mI mT mS mC mL mB mF mU mX (up mP pn ch) mK mD mZ []) H := hP
  have hD : va_D A (wMo dA mo ft lf hg kk tx pn tk fm tO tl mI mT mS mC mL mB mF mU mX (up mP pn ch) mK mD mZ []) := hD
  refine lv_aload_n hx hb dMo_print_10 rfl (lv_at hl 0 rfl) ?_
  refine lv_dup hx hb dMo_print_11 rfl ?_
  refine va_get (D := (dC, dI)) (ci := 7) (v := .int (iI pn)) (C := "MacroReckonerModel") (T := TMo) (N := 23) hx hb hts inMo hown hK hP 0 rfl rfl 14 (by decide) (hts _ wt4_72) (fun _ h9 => h9) rfl dMo_print_12 ?_
  refine lv_iconst (v := iI 1) hx hb dMo_print_15 rfl ?_
  refine iv_iadd hx hb dMo_print_16 ?_
  refine va_put (D := (dC, dI)) (ci := 7) (v := .int (iI (pn + 1))) (ty := .int) (C := "MacroReckonerModel") (T := TMo) (N := 23) hx hb hts inMo tyMo tyMo_ok nmMo hown hK hP hD hS 0 rfl rfl 14 (by decide) (hts _ wt4_72) (fun _ h9 => h9) rfl (by decide +kernel) rfl rfl (Nat.le_of_ble_eq_true rfl) dMo_print_17 (fun H locs hP hD hS => ?_)
  have hP : va_P (dC, dI) vwCl (wMo dA mo ft lf hg kk tx (pn + 1) tk fm tO tl mI mT mS mC mL mB mF mU mX (up mP pn ch) mK mD mZ []) H := hP
  have hD : va_D A (wMo dA mo ft lf hg kk tx (pn + 1) tk fm tO tl mI mT mS mC mL mB mF mU mX (up mP pn ch) mK mD mZ []) := hD
  exact rt_v hx hb hr hlocks hK hS dMo_print_20 () hP hD (show True from by trivial)

theorem dMo_printThing_0 : decode prog_9_method_30_code 0 = .ok (.aload_n 0, 1) := by decide +kernel
theorem dMo_printThing_1 : decode prog_9_method_30_code 1 = .ok (.getfield 13, 3) := by decide +kernel
theorem dMo_printThing_4 : decode prog_9_method_30_code 4 = .ok (.iload_n 1, 1) := by decide +kernel
theorem dMo_printThing_5 : decode prog_9_method_30_code 5 = .ok (.baload, 1) := by decide +kernel
theorem dMo_printThing_6 : decode prog_9_method_30_code 6 = .ok (.ifCond .eq 37, 3) := by decide +kernel
theorem dMo_printThing_9 : decode prog_9_method_30_code 9 = .ok (.iconst 0, 1) := by decide +kernel
theorem dMo_printThing_10 : decode prog_9_method_30_code 10 = .ok (.istore_n 2, 1) := by decide +kernel
theorem dMo_printThing_11 : decode prog_9_method_30_code 11 = .ok (.iload_n 2, 1) := by decide +kernel
theorem dMo_printThing_12 : decode prog_9_method_30_code 12 = .ok (.aload_n 0, 1) := by decide +kernel
theorem dMo_printThing_13 : decode prog_9_method_30_code 13 = .ok (.getfield 23, 3) := by decide +kernel
theorem dMo_printThing_16 : decode prog_9_method_30_code 16 = .ok (.iload_n 1, 1) := by decide +kernel
theorem dMo_printThing_17 : decode prog_9_method_30_code 17 = .ok (.iaload, 1) := by decide +kernel
theorem dMo_printThing_18 : decode prog_9_method_30_code 18 = .ok (.if_icmp .ge 24, 3) := by decide +kernel
theorem dMo_printThing_21 : decode prog_9_method_30_code 21 = .ok (.aload_n 0, 1) := by decide +kernel
theorem dMo_printThing_22 : decode prog_9_method_30_code 22 = .ok (.aload_n 0, 1) := by decide +kernel
theorem dMo_printThing_23 : decode prog_9_method_30_code 23 = .ok (.getfield 26, 3) := by decide +kernel
theorem dMo_printThing_26 : decode prog_9_method_30_code 26 = .ok (.bipush 60, 2) := by decide +kernel
theorem dMo_printThing_28 : decode prog_9_method_30_code 28 = .ok (.iload_n 1, 1) := by decide +kernel
theorem dMo_printThing_29 : decode prog_9_method_30_code 29 = .ok (.imul, 1) := by decide +kernel
theorem dMo_printThing_30 : decode prog_9_method_30_code 30 = .ok (.iload_n 2, 1) := by decide +kernel
theorem dMo_printThing_31 : decode prog_9_method_30_code 31 = .ok (.iadd, 1) := by decide +kernel
theorem dMo_printThing_32 : decode prog_9_method_30_code 32 = .ok (.iaload, 1) := by decide +kernel
theorem dMo_printThing_33 : decode prog_9_method_30_code 33 = .ok (.invokevirtual 117, 3) := by decide +kernel
theorem dMo_printThing_36 : decode prog_9_method_30_code 36 = .ok (.iinc 2 1, 3) := by decide +kernel
theorem dMo_printThing_39 : decode prog_9_method_30_code 39 = .ok (.goto (-28), 3) := by decide +kernel
theorem dMo_printThing_42 : decode prog_9_method_30_code 42 = .ok (.return_, 1) := by decide +kernel
theorem dMo_printThing_43 : decode prog_9_method_30_code 43 = .ok (.aload_n 0, 1) := by decide +kernel
theorem dMo_printThing_44 : decode prog_9_method_30_code 44 = .ok (.getfield 17, 3) := by decide +kernel
theorem dMo_printThing_47 : decode prog_9_method_30_code 47 = .ok (.iload_n 1, 1) := by decide +kernel
theorem dMo_printThing_48 : decode prog_9_method_30_code 48 = .ok (.iaload, 1) := by decide +kernel
theorem dMo_printThing_49 : decode prog_9_method_30_code 49 = .ok (.ifCond .ne 10, 3) := by decide +kernel
theorem dMo_printThing_52 : decode prog_9_method_30_code 52 = .ok (.aload_n 0, 1) := by decide +kernel
theorem dMo_printThing_53 : decode prog_9_method_30_code 53 = .ok (.bipush 48, 2) := by decide +kernel
theorem dMo_printThing_55 : decode prog_9_method_30_code 55 = .ok (.invokevirtual 117, 3) := by decide +kernel
theorem dMo_printThing_58 : decode prog_9_method_30_code 58 = .ok (.return_, 1) := by decide +kernel
theorem dMo_printThing_59 : decode prog_9_method_30_code 59 = .ok (.aload_n 0, 1) := by decide +kernel
theorem dMo_printThing_60 : decode prog_9_method_30_code 60 = .ok (.getfield 17, 3) := by decide +kernel
theorem dMo_printThing_63 : decode prog_9_method_30_code 63 = .ok (.iload_n 1, 1) := by decide +kernel
theorem dMo_printThing_64 : decode prog_9_method_30_code 64 = .ok (.iaload, 1) := by decide +kernel
theorem dMo_printThing_65 : decode prog_9_method_30_code 65 = .ok (.ifCond .ge 9, 3) := by decide +kernel
theorem dMo_printThing_68 : decode prog_9_method_30_code 68 = .ok (.aload_n 0, 1) := by decide +kernel
theorem dMo_printThing_69 : decode prog_9_method_30_code 69 = .ok (.bipush 45, 2) := by decide +kernel
theorem dMo_printThing_71 : decode prog_9_method_30_code 71 = .ok (.invokevirtual 117, 3) := by decide +kernel
theorem dMo_printThing_74 : decode prog_9_method_30_code 74 = .ok (.aload_n 0, 1) := by decide +kernel
theorem dMo_printThing_75 : decode prog_9_method_30_code 75 = .ok (.getfield 23, 3) := by decide +kernel
theorem dMo_printThing_78 : decode prog_9_method_30_code 78 = .ok (.iload_n 1, 1) := by decide +kernel
theorem dMo_printThing_79 : decode prog_9_method_30_code 79 = .ok (.iaload, 1) := by decide +kernel
theorem dMo_printThing_80 : decode prog_9_method_30_code 80 = .ok (.iconst 1, 1) := by decide +kernel
theorem dMo_printThing_81 : decode prog_9_method_30_code 81 = .ok (.isub, 1) := by decide +kernel
theorem dMo_printThing_82 : decode prog_9_method_30_code 82 = .ok (.istore_n 2, 1) := by decide +kernel
theorem dMo_printThing_83 : decode prog_9_method_30_code 83 = .ok (.iload_n 2, 1) := by decide +kernel
theorem dMo_printThing_84 : decode prog_9_method_30_code 84 = .ok (.aload_n 0, 1) := by decide +kernel
theorem dMo_printThing_85 : decode prog_9_method_30_code 85 = .ok (.getfield 20, 3) := by decide +kernel
theorem dMo_printThing_88 : decode prog_9_method_30_code 88 = .ok (.iload_n 1, 1) := by decide +kernel
theorem dMo_printThing_89 : decode prog_9_method_30_code 89 = .ok (.iaload, 1) := by decide +kernel
theorem dMo_printThing_90 : decode prog_9_method_30_code 90 = .ok (.if_icmp .lt 27, 3) := by decide +kernel
theorem dMo_printThing_93 : decode prog_9_method_30_code 93 = .ok (.aload_n 0, 1) := by decide +kernel
theorem dMo_printThing_94 : decode prog_9_method_30_code 94 = .ok (.bipush 48, 2) := by decide +kernel
theorem dMo_printThing_96 : decode prog_9_method_30_code 96 = .ok (.aload_n 0, 1) := by decide +kernel
theorem dMo_printThing_97 : decode prog_9_method_30_code 97 = .ok (.getfield 26, 3) := by decide +kernel
theorem dMo_printThing_100 : decode prog_9_method_30_code 100 = .ok (.bipush 60, 2) := by decide +kernel
theorem dMo_printThing_102 : decode prog_9_method_30_code 102 = .ok (.iload_n 1, 1) := by decide +kernel
theorem dMo_printThing_103 : decode prog_9_method_30_code 103 = .ok (.imul, 1) := by decide +kernel
theorem dMo_printThing_104 : decode prog_9_method_30_code 104 = .ok (.iload_n 2, 1) := by decide +kernel
theorem dMo_printThing_105 : decode prog_9_method_30_code 105 = .ok (.iadd, 1) := by decide +kernel
theorem dMo_printThing_106 : decode prog_9_method_30_code 106 = .ok (.iaload, 1) := by decide +kernel
theorem dMo_printThing_107 : decode prog_9_method_30_code 107 = .ok (.iadd, 1) := by decide +kernel
theorem dMo_printThing_108 : decode prog_9_method_30_code 108 = .ok (.invokevirtual 117, 3) := by decide +kernel
theorem dMo_printThing_111 : decode prog_9_method_30_code 111 = .ok (.iinc 2 (-1), 3) := by decide +kernel
theorem dMo_printThing_114 : decode prog_9_method_30_code 114 = .ok (.goto (-31), 3) := by decide +kernel
theorem dMo_printThing_117 : decode prog_9_method_30_code 117 = .ok (.aload_n 0, 1) := by decide +kernel
theorem dMo_printThing_118 : decode prog_9_method_30_code 118 = .ok (.getfield 20, 3) := by decide +kernel
theorem dMo_printThing_121 : decode prog_9_method_30_code 121 = .ok (.iload_n 1, 1) := by decide +kernel
theorem dMo_printThing_122 : decode prog_9_method_30_code 122 = .ok (.iaload, 1) := by decide +kernel
theorem dMo_printThing_123 : decode prog_9_method_30_code 123 = .ok (.ifCond .le 9, 3) := by decide +kernel
theorem dMo_printThing_126 : decode prog_9_method_30_code 126 = .ok (.aload_n 0, 1) := by decide +kernel
theorem dMo_printThing_127 : decode prog_9_method_30_code 127 = .ok (.bipush 46, 2) := by decide +kernel
theorem dMo_printThing_129 : decode prog_9_method_30_code 129 = .ok (.invokevirtual 117, 3) := by decide +kernel
theorem dMo_printThing_132 : decode prog_9_method_30_code 132 = .ok (.aload_n 0, 1) := by decide +kernel
theorem dMo_printThing_133 : decode prog_9_method_30_code 133 = .ok (.getfield 20, 3) := by decide +kernel
theorem dMo_printThing_136 : decode prog_9_method_30_code 136 = .ok (.iload_n 1, 1) := by decide +kernel
theorem dMo_printThing_137 : decode prog_9_method_30_code 137 = .ok (.iaload, 1) := by decide +kernel
theorem dMo_printThing_138 : decode prog_9_method_30_code 138 = .ok (.iconst 1, 1) := by decide +kernel
theorem dMo_printThing_139 : decode prog_9_method_30_code 139 = .ok (.isub, 1) := by decide +kernel
theorem dMo_printThing_140 : decode prog_9_method_30_code 140 = .ok (.istore_n 2, 1) := by decide +kernel
theorem dMo_printThing_141 : decode prog_9_method_30_code 141 = .ok (.iload_n 2, 1) := by decide +kernel
theorem dMo_printThing_142 : decode prog_9_method_30_code 142 = .ok (.ifCond .lt 42, 3) := by decide +kernel
theorem dMo_printThing_145 : decode prog_9_method_30_code 145 = .ok (.aload_n 0, 1) := by decide +kernel
theorem dMo_printThing_146 : decode prog_9_method_30_code 146 = .ok (.iload_n 2, 1) := by decide +kernel
theorem dMo_printThing_147 : decode prog_9_method_30_code 147 = .ok (.aload_n 0, 1) := by decide +kernel
theorem dMo_printThing_148 : decode prog_9_method_30_code 148 = .ok (.getfield 23, 3) := by decide +kernel
theorem dMo_printThing_151 : decode prog_9_method_30_code 151 = .ok (.iload_n 1, 1) := by decide +kernel
theorem dMo_printThing_152 : decode prog_9_method_30_code 152 = .ok (.iaload, 1) := by decide +kernel
theorem dMo_printThing_153 : decode prog_9_method_30_code 153 = .ok (.if_icmp .ge 20, 3) := by decide +kernel
theorem dMo_printThing_156 : decode prog_9_method_30_code 156 = .ok (.bipush 48, 2) := by decide +kernel
theorem dMo_printThing_158 : decode prog_9_method_30_code 158 = .ok (.aload_n 0, 1) := by decide +kernel
theorem dMo_printThing_159 : decode prog_9_method_30_code 159 = .ok (.getfield 26, 3) := by decide +kernel
theorem dMo_printThing_162 : decode prog_9_method_30_code 162 = .ok (.bipush 60, 2) := by decide +kernel
theorem dMo_printThing_164 : decode prog_9_method_30_code 164 = .ok (.iload_n 1, 1) := by decide +kernel
theorem dMo_printThing_165 : decode prog_9_method_30_code 165 = .ok (.imul, 1) := by decide +kernel
theorem dMo_printThing_166 : decode prog_9_method_30_code 166 = .ok (.iload_n 2, 1) := by decide +kernel
theorem dMo_printThing_167 : decode prog_9_method_30_code 167 = .ok (.iadd, 1) := by decide +kernel
theorem dMo_printThing_168 : decode prog_9_method_30_code 168 = .ok (.iaload, 1) := by decide +kernel
theorem dMo_printThing_169 : decode prog_9_method_30_code 169 = .ok (.iadd, 1) := by decide +kernel
theorem dMo_printThing_170 : decode prog_9_method_30_code 170 = .ok (.goto 5, 3) := by decide +kernel
theorem dMo_printThing_173 : decode prog_9_method_30_code 173 = .ok (.bipush 48, 2) := by decide +kernel
theorem dMo_printThing_175 : decode prog_9_method_30_code 175 = .ok (.invokevirtual 117, 3) := by decide +kernel
theorem dMo_printThing_178 : decode prog_9_method_30_code 178 = .ok (.iinc 2 (-1), 3) := by decide +kernel
theorem dMo_printThing_181 : decode prog_9_method_30_code 181 = .ok (.goto (-40), 3) := by decide +kernel
theorem dMo_printThing_184 : decode prog_9_method_30_code 184 = .ok (.return_, 1) := by decide +kernel
abbrev qMo_printThing (dC : Nat → ClassId) (dI : Nat → Nat → Nat) (dA : Nat → ClassId) (mo : Nat) (ft : Int) (lf : Int) (hg : Int) (kk : Int) (tx : Int) (pn : Int) (tk : Int) (fm : Int) (tO : Int) (tl : Int) (mI : Int → Int) (mT : Int → Int) (mS : Int → Int) (mC : Int → Int) (mL : Int → Int) (mB : Int → Int) (mF : Int → Int) (mU : Int → Int) (mX : Int → Int) (mP : Int → Int) (mK : Int → Int) (mD : Int → Int) (mZ : Int → Int) (x : Int) (xa : Th) (A : Nat → Prop) : Array Value → State → Outcome → State → Prop := QV (dC, dI) vwCl (tyA dA) (fun (v_ : (Int → Int) × Int) => v_.2 = pn + thW xa ∧ (∀ j, j < pn → v_.1 j = mP j) ∧ ∀ j, 0 ≤ j → j < thW xa → v_.1 (pn + j) = thC xa j) (fun (v_ : (Int → Int) × Int) => wMo dA mo ft lf hg kk tx v_.2 tk fm tO tl mI mT mS mC mL mB mF mU mX v_.1 mK mD mZ []) A
abbrev rmMo_printThing : Room := { frames := 1, cells := 0, slots := 0, locals := 21 }
set_option maxRecDepth 100000 in
set_option maxHeartbeats 1000000 in
theorem cMo_printThing (l : Launch) (dC : Nat → ClassId) (dI : Nat → Nat → Nat) (dA : Nat → ClassId) (mo : Nat) (ft : Int) (lf : Int) (hg : Int) (kk : Int) (tx : Int) (pn : Int) (tk : Int) (fm : Int) (tO : Int) (tl : Int) (mI : Int → Int) (mT : Int → Int) (mS : Int → Int) (mC : Int → Int) (mL : Int → Int) (mB : Int → Int) (mF : Int → Int) (mU : Int → Int) (mX : Int → Int) (mP : Int → Int) (mK : Int → Int) (mD : Int → Int) (mZ : Int → Int) (x : Int) (xa : Th) (hxy : 0 ≤ x ∧ x ≤ 46) (hTa : MT mT mS mC mL mB x xa) (hpw : 0 ≤ pn ∧ pn + thW xa ≤ 200) (sz : Nat) : Met l yMo_printThing wsMo_printThing rmMo_printThing (PC (dC, dI) vwCl (tyA dA) XN [.ref mo, .int (iI x)] (wMo dA mo ft lf hg kk tx pn tk fm tO tl mI mT mS mC mL mB mF mU mX mP mK mD mZ []) sz) (qMo_printThing dC dI dA mo ft lf hg kk tx pn tk fm tO tl mI mT mS mC mL mB mF mU mX mP mK mD mZ x xa (va_A (wMo dA mo ft lf hg kk tx pn tk fm tO tl mI mT mS mC mL mB mF mU mX mP mK mD mZ []) sz)) 0 0 (va_A (wMo dA mo ft lf hg kk tx pn tk fm tO tl mI mT mS mC mL mB mF mU mX mP mK mD mZ []) sz) := by
  refine met_of (cc := prog_9_method_30_code) (maxL := 3) (ret := none) (Qc := qMo_printThing dC dI dA mo ft lf hg kk tx pn tk fm tO tl mI mT mS mC mL mB mF mU mX mP mK mD mZ x xa) XN_ok (by decide) rfl (Nat.le_of_ble_eq_true rfl) ?_
  intro p e s m below meth c ls A hx hb hr hml hown hts hlocks hnm hK hP hD hA hX hS hl
  have hl : lv_has ls 3 [(0, .ref mo), (1, .int (iI x))] := hl
  have hown : s.vm.findClass "MacroReckonerModel" = some m.cls := hown
  obtain ⟨H, hH⟩ : ∃ H : Heap, H = s.heap := ⟨_, rfl⟩
  obtain ⟨locs, hlo⟩ : ∃ L : List Loc, L = [] := ⟨_, rfl⟩
  have hP : va_P (dC, dI) vwCl (wMo dA mo ft lf hg kk tx pn tk fm tO tl mI mT mS mC mL mB mF mU mX mP mK mD mZ []) H := hH ▸ hP
  have hS : va_S A s.heap H locs := by rw [hH, hlo]; exact hS
  suffices hgo : W p l e rmMo_printThing s m [.ref mo, .int (iI x)].toArray below meth c H locs 0 0 (MQ below (qMo_printThing dC dI dA mo ft lf hg kk tx pn tk fm tO tl mI mT mS mC mL mB mF mU mX mP mK mD mZ x xa A) [.ref mo, .int (iI x)].toArray s 0 0 A) (F0 m 0 ls []) by rw [hH, hlo] at hgo; exact hgo
  clear hH hlo
  have hbx := MT_b hTa
  refine lv_aload_n hx hb dMo_printThing_0 rfl (lv_at hl 0 rfl) ?_
  refine va_get (D := (dC, dI)) (ci := 7) (v := .ref (mo + 2)) (C := "MacroReckonerModel") (T := TMo) (N := 23) hx hb hts inMo hown hK hP 0 rfl rfl 3 (by decide) (hts _ wt4_61) (fun _ h9 => h9) rfl dMo_printThing_1 ?_
  refine lv_iload_n hx hb dMo_printThing_4 rfl (lv_at hl 1 rfl) ?_
  refine iv_zald hx hb hK hP 2 2 rfl rfl (by decide) dMo_printThing_5 (by omega) (by omega) ?_
  refine iv_if_eq (tgt := 43) hx hb dMo_printThing_6 (by decide) ⟨by omega, by omega⟩ (fun hc6 => ?_) (fun hc6 => ?_)
  · refine lv_aload_n hx hb dMo_printThing_43 rfl (lv_at hl 0 rfl) ?_
    refine va_get (D := (dC, dI)) (ci := 7) (v := .ref (mo + 3)) (C := "MacroReckonerModel") (T := TMo) (N := 23) hx hb hts inMo hown hK hP 0 rfl rfl 4 (by decide) (hts _ wt4_62) (fun _ h9 => h9) rfl dMo_printThing_44 ?_
    refine lv_iload_n hx hb dMo_printThing_47 rfl (lv_at hl 1 rfl) ?_
    refine iv_iald hx hb hK hP 3 0 rfl rfl (by decide) dMo_printThing_48 (by omega) (by omega) ?_
    refine iv_if_ne (tgt := 59) hx hb dMo_printThing_49 (by decide) ⟨by omega, by omega⟩ (fun hc49 => ?_) (fun hc49 => ?_)
    · obtain ⟨ng, LL, hng, hLL, hL1, hW9, hC9, hCs, hsc, hTx, -⟩ := th_n hTa (by omega) (by omega)
      obtain ⟨pt, hpt, hpt2⟩ : ∃ z : Int, (if 0 < xa.sc then 1 else 0 : Int) = z ∧ ((0 < xa.sc ∧ z = 1) ∨ (xa.sc = 0 ∧ z = 0)) := ⟨_, rfl, by split <;> omega⟩
      rw [hpt] at hW9
      refine lv_aload_n hx hb dMo_printThing_59 rfl (lv_at hl 0 rfl) ?_
      refine va_get (D := (dC, dI)) (ci := 7) (v := .ref (mo + 3)) (C := "MacroReckonerModel") (T := TMo) (N := 23) hx hb hts inMo hown hK hP 0 rfl rfl 4 (by decide) (hts _ wt4_62) (fun _ h9 => h9) rfl dMo_printThing_60 ?_
      refine lv_iload_n hx hb dMo_printThing_63 rfl (lv_at hl 1 rfl) ?_
      refine iv_iald hx hb hK hP 3 0 rfl rfl (by decide) dMo_printThing_64 (by omega) (by omega) ?_
      have J74 : ∀ (P5 : Int → Int) (p5 : Int) (H : Heap) (locs : List Loc) (ls : Array Slot), (pdJ mP pn ng xa.sc (ab xa.v) LL P5 p5 (LL - 1)) → va_P (dC, dI) vwCl (wMo dA mo ft lf hg kk tx p5 tk fm tO tl mI mT mS mC mL mB mF mU mX P5 mK mD mZ []) H → va_D A (wMo dA mo ft lf hg kk tx p5 tk fm tO tl mI mT mS mC mL mB mF mU mX P5 mK mD mZ []) → va_S A s.heap H locs → lv_has ls 3 [(0, .ref mo), (1, .int (iI x))] → W p l e rmMo_printThing s m [.ref mo, .int (iI x)].toArray below meth c H locs 0 0 (MQ below (qMo_printThing dC dI dA mo ft lf hg kk tx pn tk fm tO tl mI mT mS mC mL mB mF mU mX mP mK mD mZ x xa A) [.ref mo, .int (iI x)].toArray s 0 0 A) (F0 m 74 ls []) := by
        intro P5 p5 H locs ls hp5 hP hD hS hl
        refine lv_aload_n hx hb dMo_printThing_74 rfl (lv_at hl 0 rfl) ?_
        refine va_get (D := (dC, dI)) (ci := 7) (v := .ref (mo + 5)) (C := "MacroReckonerModel") (T := TMo) (N := 23) hx hb hts inMo hown hK hP 0 rfl rfl 6 (by decide) (hts _ wt4_64) (fun _ h9 => h9) rfl dMo_printThing_75 ?_
        refine lv_iload_n hx hb dMo_printThing_78 rfl (lv_at hl 1 rfl) ?_
        refine iv_iald hx hb hK hP 5 0 rfl rfl (by decide) dMo_printThing_79 (by omega) (by omega) ?_
        refine lv_iconst (v := iI 1) hx hb dMo_printThing_80 rfl ?_
        refine iv_isub hx hb dMo_printThing_81 ?_
        refine lv_istore_n (lv' := [(2, .int (iI ((mL x) - 1))), (0, .ref mo), (1, .int (iI x))]) hx hb dMo_printThing_82 rfl hl (by decide) rfl (fun ls hl => ?_)
        have L83 : ∀ (n : Nat) (P9 : Int → Int) (p9 : Int) (j : Int) (H : Heap) (locs : List Loc) (ls : Array Slot), (-1 ≤ j ∧ j < mL x) → (pdJ mP pn ng xa.sc (ab xa.v) LL P9 p9 (max j (xa.sc - 1))) → (j + 1).toNat < n → va_P (dC, dI) vwCl (wMo dA mo ft lf hg kk tx p9 tk fm tO tl mI mT mS mC mL mB mF mU mX P9 mK mD mZ []) H → va_D A (wMo dA mo ft lf hg kk tx p9 tk fm tO tl mI mT mS mC mL mB mF mU mX P9 mK mD mZ []) → va_S A s.heap H locs → lv_has ls 3 [(2, .int (iI j)), (0, .ref mo), (1, .int (iI x))] → W p l e rmMo_printThing s m [.ref mo, .int (iI x)].toArray below meth c H locs 0 0 (MQ below (qMo_printThing dC dI dA mo ft lf hg kk tx pn tk fm tO tl mI mT mS mC mL mB mF mU mX mP mK mD mZ x xa A) [.ref mo, .int (iI x)].toArray s 0 0 A) (F0 m 83 ls []) := by
          intro n
          induction n with
          | zero => intro P9 p9 j H locs ls hj hJ hn; omega
          | succ n ih =>
            intro P9 p9 j H locs ls hj hJ hn hP hD hS hl
            have hJ3 := hJ.2.2.1
            have ih83 := ih
            refine lv_iload_n hx hb dMo_printThing_83 rfl (lv_at hl 0 rfl) ?_
            refine lv_aload_n hx hb dMo_printThing_84 rfl (lv_at hl 1 rfl) ?_
            refine va_get (D := (dC, dI)) (ci := 7) (v := .ref (mo + 4)) (C := "MacroReckonerModel") (T := TMo) (N := 23) hx hb hts inMo hown hK hP 0 rfl rfl 5 (by decide) (hts _ wt4_63) (fun _ h9 => h9) rfl dMo_printThing_85 ?_
            refine lv_iload_n hx hb dMo_printThing_88 rfl (lv_at hl 2 rfl) ?_
            refine iv_iald hx hb hK hP 4 0 rfl rfl (by decide) dMo_printThing_89 (by omega) (by omega) ?_
            refine iv_icmp_lt (tgt := 117) hx hb dMo_printThing_90 (by decide) ⟨by omega, by omega⟩ ⟨by omega, by omega⟩ (fun hc90 => ?_) (fun hc90 => ?_)
            · refine lv_aload_n hx hb dMo_printThing_117 rfl (lv_at hl 1 rfl) ?_
              refine va_get (D := (dC, dI)) (ci := 7) (v := .ref (mo + 4)) (C := "MacroReckonerModel") (T := TMo) (N := 23) hx hb hts inMo hown hK hP 0 rfl rfl 5 (by decide) (hts _ wt4_63) (fun _ h9 => h9) rfl dMo_printThing_118 ?_
              refine lv_iload_n hx hb dMo_printThing_121 rfl (lv_at hl 2 rfl) ?_
              refine iv_iald hx hb hK hP 4 0 rfl rfl (by decide) dMo_printThing_122 (by omega) (by omega) ?_
              have J141 : ∀ (n : Nat) (P8 : Int → Int) (p8 : Int) (j8 : Int) (H : Heap) (locs : List Loc) (ls : Array Slot), (pkJ mP pn ng xa.sc (ab xa.v) LL P8 p8 j8) → (j8 + 1).toNat < n → va_P (dC, dI) vwCl (wMo dA mo ft lf hg kk tx p8 tk fm tO tl mI mT mS mC mL mB mF mU mX P8 mK mD mZ []) H → va_D A (wMo dA mo ft lf hg kk tx p8 tk fm tO tl mI mT mS mC mL mB mF mU mX P8 mK mD mZ []) → va_S A s.heap H locs → lv_has ls 3 [(2, .int (iI j8)), (0, .ref mo), (1, .int (iI x))] → W p l e rmMo_printThing s m [.ref mo, .int (iI x)].toArray below meth c H locs 0 0 (MQ below (qMo_printThing dC dI dA mo ft lf hg kk tx pn tk fm tO tl mI mT mS mC mL mB mF mU mX mP mK mD mZ x xa A) [.ref mo, .int (iI x)].toArray s 0 0 A) (F0 m 141 ls []) := by
                intro n
                induction n with
                | zero => intro P8 p8 j8 H locs ls hJ8 hn; omega
                | succ n ih =>
                  intro P8 p8 j8 H locs ls hJ8 hn hP hD hS hl
                  have hk1 := hJ8.1
                  have hk2 := hJ8.2.1
                  rw [hpt] at hk2
                  have ih141 := ih
                  refine lv_iload_n hx hb dMo_printThing_141 rfl (lv_at hl 0 rfl) ?_
                  refine iv_if_lt (tgt := 184) hx hb dMo_printThing_142 (by decide) ⟨by omega, by omega⟩ (fun hc142 => ?_) (fun hc142 => ?_)
                  · exact rt_v hx hb hr hlocks hK hS dMo_printThing_184 (P8, p8) hP hD (show p8 = pn + thW xa ∧ (∀ j, j < pn → P8 j = mP j) ∧ ∀ j, 0 ≤ j → j < thW xa → P8 (pn + j) = thC xa j from by exact ⟨by omega, hJ8.2.2.1, fun t z w => by rw [hC9]; exact hJ8.2.2.2 t z (by omega)⟩)
                  · refine lv_aload_n hx hb dMo_printThing_145 rfl (lv_at hl 1 rfl) ?_
                    refine lv_iload_n hx hb dMo_printThing_146 rfl (lv_at hl 0 rfl) ?_
                    refine lv_aload_n hx hb dMo_printThing_147 rfl (lv_at hl 1 rfl) ?_
                    refine va_get (D := (dC, dI)) (ci := 7) (v := .ref (mo + 5)) (C := "MacroReckonerModel") (T := TMo) (N := 23) hx hb hts inMo hown hK hP 0 rfl rfl 6 (by decide) (hts _ wt4_64) (fun _ h9 => h9) rfl dMo_printThing_148 ?_
                    refine lv_iload_n hx hb dMo_printThing_151 rfl (lv_at hl 2 rfl) ?_
                    refine iv_iald hx hb hK hP 5 0 rfl rfl (by decide) dMo_printThing_152 (by omega) (by omega) ?_
                    refine iv_icmp_ge (tgt := 173) hx hb dMo_printThing_153 (by decide) ⟨by omega, by omega⟩ ⟨by omega, by omega⟩ (fun hc153 => ?_) (fun hc153 => ?_)
                    · refine lv_bipush (v := iI 48) hx hb dMo_printThing_173 (by decide) ?_
                      refine cv_v (va_runV (C := "MacroReckonerModel") (As := [.int (iI 48)]) (rest := []) ⟨hx, hb, hml, hown, hts⟩ (cMo_print l dC dI dA mo ft lf hg kk tx p8 tk fm tO tl mI mT mS mC mL mB mF mU mX P8 mK mD mZ 48 (by omega) H.size) (cwV 1 hts (gdV wt5_93 wt5_95 ws6_4 wt1_8 wt5_96) rfl rfl rfl ⟨rfl, by decide, by decide, by decide +kernel⟩ ⟨by decide, by decide⟩) (preV (q := ("MacroReckonerModel", TMo, 23)) hK hP hD hS hA XN_ok trivial [0, 1, 2, 3, 4, 5, 6, 7, 8, 9, 10, 11, 12, 13] rfl rfl 0 rfl rfl) rfl rfl hl.1 rfl (lv_room (Nat.le_of_ble_eq_true rfl)) dMo_printThing_175 ⟨Nat.zero_le _, Nat.zero_le _⟩) hP hD hS hA [0, 1, 2, 3, 4, 5, 6, 7, 8, 9, 10, 11, 12, 13] [] rfl (fun v_ => wMo dA mo ft lf hg kk tx ((p8 + 1)) tk fm tO tl mI mT mS mC mL mB mF mU mX ((up P8 p8 48)) mK mD mZ []) (fun _ => rfl) ([] : va_W) rfl (fun _ => rfl) [mo, mo + 1, mo + 2, mo + 3, mo + 4, mo + 5, mo + 6, mo + 7, mo + 8, mo + 9, mo + 10, mo + 11, mo + 12, mo + 13] rfl (fun _ => rfl) (fun _ => rfl) (fun u_ H locs hq175 hP hD hS => ?_)
                      have hP : va_P (dC, dI) vwCl (wMo dA mo ft lf hg kk tx ((p8 + 1)) tk fm tO tl mI mT mS mC mL mB mF mU mX ((up P8 p8 48)) mK mD mZ []) H := hP
                      have hD : va_D A (wMo dA mo ft lf hg kk tx ((p8 + 1)) tk fm tO tl mI mT mS mC mL mB mF mU mX ((up P8 p8 48)) mK mD mZ []) := hD
                      have hq175 : True := hq175
                      refine lv_iinc (k := 0) (lv' := [(2, .int (iI (j8 - 1))), (0, .ref mo), (1, .int (iI x))]) (v := iI (j8 - 1)) hx hb dMo_printThing_178 hl rfl (by rw [show (Int32.ofInt (-1)) = iI (-1) from rfl, ← iI_add]; congr 1) (by decide) rfl (fun ls hl => ?_)
                      refine lv_goto (tgt := 141) hx hb dMo_printThing_181 (by decide) ?_
                      exact ih141 ((up P8 p8 48)) ((p8 + 1)) (j8 - 1) H locs ls (by first | exact pk_s hJ8 (by omega) (dg_in hTx (by omega) (by omega)).symm (by omega) (by omega) (by omega) | exact pk_s hJ8 (by omega) (dg_out hTx (by omega)).symm (by omega) (by omega) (by omega)) (by omega) hP hD hS (lv_sub hl [0, 1, 2] rfl)
                    · refine lv_bipush (v := iI 48) hx hb dMo_printThing_156 (by decide) ?_
                      refine lv_aload_n hx hb dMo_printThing_158 rfl (lv_at hl 1 rfl) ?_
                      refine va_get (D := (dC, dI)) (ci := 7) (v := .ref (mo + 6)) (C := "MacroReckonerModel") (T := TMo) (N := 23) hx hb hts inMo hown hK hP 0 rfl rfl 7 (by decide) (hts _ wt4_65) (fun _ h9 => h9) rfl dMo_printThing_159 ?_
                      refine lv_bipush (v := iI 60) hx hb dMo_printThing_162 (by decide) ?_
                      refine lv_iload_n hx hb dMo_printThing_164 rfl (lv_at hl 2 rfl) ?_
                      refine iv_imul hx hb dMo_printThing_165 ?_
                      refine lv_iload_n hx hb dMo_printThing_166 rfl (lv_at hl 0 rfl) ?_
                      refine iv_iadd hx hb dMo_printThing_167 ?_
                      refine iv_iald hx hb hK hP 6 0 rfl rfl (by decide) dMo_printThing_168 (by omega) (by omega) ?_
                      refine iv_iadd hx hb dMo_printThing_169 ?_
                      refine lv_goto (tgt := 175) hx hb dMo_printThing_170 (by decide) ?_
                      refine cv_v (va_runV (C := "MacroReckonerModel") (As := [.int (iI (48 + (mB ((60 * x) + j8))))]) (rest := []) ⟨hx, hb, hml, hown, hts⟩ (cMo_print l dC dI dA mo ft lf hg kk tx p8 tk fm tO tl mI mT mS mC mL mB mF mU mX P8 mK mD mZ (48 + (mB ((60 * x) + j8))) (by omega) H.size) (cwV 1 hts (gdV wt5_93 wt5_95 ws6_4 wt1_8 wt5_96) rfl rfl rfl ⟨rfl, by decide, by decide, by decide +kernel⟩ ⟨by decide, by decide⟩) (preV (q := ("MacroReckonerModel", TMo, 23)) hK hP hD hS hA XN_ok trivial [0, 1, 2, 3, 4, 5, 6, 7, 8, 9, 10, 11, 12, 13] rfl rfl 0 rfl rfl) rfl rfl hl.1 rfl (lv_room (Nat.le_of_ble_eq_true rfl)) dMo_printThing_175 ⟨Nat.zero_le _, Nat.zero_le _⟩) hP hD hS hA [0, 1, 2, 3, 4, 5, 6, 7, 8, 9, 10, 11, 12, 13] [] rfl (fun v_ => wMo dA mo ft lf hg kk tx ((p8 + 1)) tk fm tO tl mI mT mS mC mL mB mF mU mX ((up P8 p8 (48 + (mB ((60 * x) + j8))))) mK mD mZ []) (fun _ => rfl) ([] : va_W) rfl (fun _ => rfl) [mo, mo + 1, mo + 2, mo + 3, mo + 4, mo + 5, mo + 6, mo + 7, mo + 8, mo + 9, mo + 10, mo + 11, mo + 12, mo + 13] rfl (fun _ => rfl) (fun _ => rfl) (fun u_ H locs hq175 hP hD hS => ?_)
                      have hP : va_P (dC, dI) vwCl (wMo dA mo ft lf hg kk tx ((p8 + 1)) tk fm tO tl mI mT mS mC mL mB mF mU mX ((up P8 p8 (48 + (mB ((60 * x) + j8))))) mK mD mZ []) H := hP
                      have hD : va_D A (wMo dA mo ft lf hg kk tx ((p8 + 1)) tk fm tO tl mI mT mS mC mL mB mF mU mX ((up P8 p8 (48 + (mB ((60 * x) + j8))))) mK mD mZ []) := hD
                      have hq175 : True := hq175
                      refine lv_iinc (k := 0) (lv' := [(2, .int (iI (j8 - 1))), (0, .ref mo), (1, .int (iI x))]) (v := iI (j8 - 1)) hx hb dMo_printThing_178 hl rfl (by rw [show (Int32.ofInt (-1)) = iI (-1) from rfl, ← iI_add]; congr 1) (by decide) rfl (fun ls hl => ?_)
                      refine lv_goto (tgt := 141) hx hb dMo_printThing_181 (by decide) ?_
                      exact ih141 ((up P8 p8 (48 + (mB ((60 * x) + j8))))) ((p8 + 1)) (j8 - 1) H locs ls (by first | exact pk_s hJ8 (by omega) (dg_in hTx (by omega) (by omega)).symm (by omega) (by omega) (by omega) | exact pk_s hJ8 (by omega) (dg_out hTx (by omega)).symm (by omega) (by omega) (by omega)) (by omega) hP hD hS (lv_sub hl [0, 1, 2] rfl)
              refine iv_if_le (tgt := 132) hx hb dMo_printThing_123 (by decide) ⟨by omega, by omega⟩ (fun hc123 => ?_) (fun hc123 => ?_)
              · refine lv_aload_n hx hb dMo_printThing_132 rfl (lv_at hl 1 rfl) ?_
                refine va_get (D := (dC, dI)) (ci := 7) (v := .ref (mo + 4)) (C := "MacroReckonerModel") (T := TMo) (N := 23) hx hb hts inMo hown hK hP 0 rfl rfl 5 (by decide) (hts _ wt4_63) (fun _ h9 => h9) rfl dMo_printThing_133 ?_
                refine lv_iload_n hx hb dMo_printThing_136 rfl (lv_at hl 2 rfl) ?_
                refine iv_iald hx hb hK hP 4 0 rfl rfl (by decide) dMo_printThing_137 (by omega) (by omega) ?_
                refine lv_iconst (v := iI 1) hx hb dMo_printThing_138 rfl ?_
                refine iv_isub hx hb dMo_printThing_139 ?_
                refine lv_istore_n (lv' := [(2, .int (iI ((mC x) - 1))), (0, .ref mo), (1, .int (iI x))]) hx hb dMo_printThing_140 rfl hl (by decide) rfl (fun ls hl => ?_)
                exact J141 _ P9 p9 ((mC x) - 1) H locs ls (by rw [show max j (xa.sc - 1) = mC x - 1 by omega] at hJ; first | exact pk_0 hJ (by omega) (by omega) | exact pk_1 hJ (by omega) (by omega) (by omega) (by omega) (by omega)) (Nat.lt_succ_self _) hP hD hS (lv_sub hl [0, 1, 2] rfl)
              · refine lv_aload_n hx hb dMo_printThing_126 rfl (lv_at hl 1 rfl) ?_
                refine lv_bipush (v := iI 46) hx hb dMo_printThing_127 (by decide) ?_
                refine cv_v (va_runV (C := "MacroReckonerModel") (As := [.int (iI 46)]) (rest := []) ⟨hx, hb, hml, hown, hts⟩ (cMo_print l dC dI dA mo ft lf hg kk tx p9 tk fm tO tl mI mT mS mC mL mB mF mU mX P9 mK mD mZ 46 (by omega) H.size) (cwV 1 hts (gdV wt5_93 wt5_95 ws6_4 wt1_8 wt5_96) rfl rfl rfl ⟨rfl, by decide, by decide, by decide +kernel⟩ ⟨by decide, by decide⟩) (preV (q := ("MacroReckonerModel", TMo, 23)) hK hP hD hS hA XN_ok trivial [0, 1, 2, 3, 4, 5, 6, 7, 8, 9, 10, 11, 12, 13] rfl rfl 0 rfl rfl) rfl rfl hl.1 rfl (lv_room (Nat.le_of_ble_eq_true rfl)) dMo_printThing_129 ⟨Nat.zero_le _, Nat.zero_le _⟩) hP hD hS hA [0, 1, 2, 3, 4, 5, 6, 7, 8, 9, 10, 11, 12, 13] [] rfl (fun v_ => wMo dA mo ft lf hg kk tx ((p9 + 1)) tk fm tO tl mI mT mS mC mL mB mF mU mX ((up P9 p9 46)) mK mD mZ []) (fun _ => rfl) ([] : va_W) rfl (fun _ => rfl) [mo, mo + 1, mo + 2, mo + 3, mo + 4, mo + 5, mo + 6, mo + 7, mo + 8, mo + 9, mo + 10, mo + 11, mo + 12, mo + 13] rfl (fun _ => rfl) (fun _ => rfl) (fun u_ H locs hq129 hP hD hS => ?_)
                have hP : va_P (dC, dI) vwCl (wMo dA mo ft lf hg kk tx ((p9 + 1)) tk fm tO tl mI mT mS mC mL mB mF mU mX ((up P9 p9 46)) mK mD mZ []) H := hP
                have hD : va_D A (wMo dA mo ft lf hg kk tx ((p9 + 1)) tk fm tO tl mI mT mS mC mL mB mF mU mX ((up P9 p9 46)) mK mD mZ []) := hD
                have hq129 : True := hq129
                refine lv_aload_n hx hb dMo_printThing_132 rfl (lv_at hl 1 rfl) ?_
                refine va_get (D := (dC, dI)) (ci := 7) (v := .ref (mo + 4)) (C := "MacroReckonerModel") (T := TMo) (N := 23) hx hb hts inMo hown hK hP 0 rfl rfl 5 (by decide) (hts _ wt4_63) (fun _ h9 => h9) rfl dMo_printThing_133 ?_
                refine lv_iload_n hx hb dMo_printThing_136 rfl (lv_at hl 2 rfl) ?_
                refine iv_iald hx hb hK hP 4 0 rfl rfl (by decide) dMo_printThing_137 (by omega) (by omega) ?_
                refine lv_iconst (v := iI 1) hx hb dMo_printThing_138 rfl ?_
                refine iv_isub hx hb dMo_printThing_139 ?_
                refine lv_istore_n (lv' := [(2, .int (iI ((mC x) - 1))), (0, .ref mo), (1, .int (iI x))]) hx hb dMo_printThing_140 rfl hl (by decide) rfl (fun ls hl => ?_)
                exact J141 _ ((up P9 p9 46)) ((p9 + 1)) ((mC x) - 1) H locs ls (by rw [show max j (xa.sc - 1) = mC x - 1 by omega] at hJ; first | exact pk_0 hJ (by omega) (by omega) | exact pk_1 hJ (by omega) (by omega) (by omega) (by omega) (by omega)) (Nat.lt_succ_self _) hP hD hS (lv_sub hl [0, 1, 2] rfl)
            · refine lv_aload_n hx hb dMo_printThing_93 rfl (lv_at hl 1 rfl) ?_
              refine lv_bipush (v := iI 48) hx hb dMo_printThing_94 (by decide) ?_
              refine lv_aload_n hx hb dMo_printThing_96 rfl (lv_at hl 1 rfl) ?_
              refine va_get (D := (dC, dI)) (ci := 7) (v := .ref (mo + 6)) (C := "MacroReckonerModel") (T := TMo) (N := 23) hx hb hts inMo hown hK hP 0 rfl rfl 7 (by decide) (hts _ wt4_65) (fun _ h9 => h9) rfl dMo_printThing_97 ?_
              refine lv_bipush (v := iI 60) hx hb dMo_printThing_100 (by decide) ?_
              refine lv_iload_n hx hb dMo_printThing_102 rfl (lv_at hl 2 rfl) ?_
              refine iv_imul hx hb dMo_printThing_103 ?_
              refine lv_iload_n hx hb dMo_printThing_104 rfl (lv_at hl 0 rfl) ?_
              refine iv_iadd hx hb dMo_printThing_105 ?_
              refine iv_iald hx hb hK hP 6 0 rfl rfl (by decide) dMo_printThing_106 (by omega) (by omega) ?_
              refine iv_iadd hx hb dMo_printThing_107 ?_
              refine cv_v (va_runV (C := "MacroReckonerModel") (As := [.int (iI (48 + (mB ((60 * x) + j))))]) (rest := []) ⟨hx, hb, hml, hown, hts⟩ (cMo_print l dC dI dA mo ft lf hg kk tx p9 tk fm tO tl mI mT mS mC mL mB mF mU mX P9 mK mD mZ (48 + (mB ((60 * x) + j))) (by omega) H.size) (cwV 1 hts (gdV wt5_93 wt5_95 ws6_4 wt1_8 wt5_96) rfl rfl rfl ⟨rfl, by decide, by decide, by decide +kernel⟩ ⟨by decide, by decide⟩) (preV (q := ("MacroReckonerModel", TMo, 23)) hK hP hD hS hA XN_ok trivial [0, 1, 2, 3, 4, 5, 6, 7, 8, 9, 10, 11, 12, 13] rfl rfl 0 rfl rfl) rfl rfl hl.1 rfl (lv_room (Nat.le_of_ble_eq_true rfl)) dMo_printThing_108 ⟨Nat.zero_le _, Nat.zero_le _⟩) hP hD hS hA [0, 1, 2, 3, 4, 5, 6, 7, 8, 9, 10, 11, 12, 13] [] rfl (fun v_ => wMo dA mo ft lf hg kk tx ((p9 + 1)) tk fm tO tl mI mT mS mC mL mB mF mU mX ((up P9 p9 (48 + (mB ((60 * x) + j))))) mK mD mZ []) (fun _ => rfl) ([] : va_W) rfl (fun _ => rfl) [mo, mo + 1, mo + 2, mo + 3, mo + 4, mo + 5, mo + 6, mo + 7, mo + 8, mo + 9, mo + 10, mo + 11, mo + 12, mo + 13] rfl (fun _ => rfl) (fun _ => rfl) (fun u_ H locs hq108 hP hD hS => ?_)
              have hP : va_P (dC, dI) vwCl (wMo dA mo ft lf hg kk tx ((p9 + 1)) tk fm tO tl mI mT mS mC mL mB mF mU mX ((up P9 p9 (48 + (mB ((60 * x) + j))))) mK mD mZ []) H := hP
              have hD : va_D A (wMo dA mo ft lf hg kk tx ((p9 + 1)) tk fm tO tl mI mT mS mC mL mB mF mU mX ((up P9 p9 (48 + (mB ((60 * x) + j))))) mK mD mZ []) := hD
              have hq108 : True := hq108
              refine lv_iinc (k := 0) (lv' := [(2, .int (iI (j - 1))), (0, .ref mo), (1, .int (iI x))]) (v := iI (j - 1)) hx hb dMo_printThing_111 hl rfl (by rw [show (Int32.ofInt (-1)) = iI (-1) from rfl, ← iI_add]; congr 1) (by decide) rfl (fun ls hl => ?_)
              refine lv_goto (tgt := 83) hx hb dMo_printThing_114 (by decide) ?_
              exact ih83 ((up P9 p9 (48 + (mB ((60 * x) + j))))) ((p9 + 1)) (j - 1) H locs ls (by omega) (by rw [show max (j - 1) (xa.sc - 1) = j - 1 by omega]; rw [show max j (xa.sc - 1) = j by omega] at hJ; have h := pd_1 hJ (by omega) (by omega) (by omega) hpw.1 (by omega); rw [dg_in hTx (by omega) (by omega)] at h; exact h) (by omega) hP hD hS (lv_sub hl [0, 1, 2] rfl)
        exact L83 _ P5 p5 ((mL x) - 1) H locs ls (by omega) (by rw [show max (mL x - 1) (xa.sc - 1) = LL - 1 by omega]; exact hp5) (Nat.lt_succ_self _) hP hD hS (lv_sub hl [0, 1, 2] rfl)
      refine iv_if_ge (tgt := 74) hx hb dMo_printThing_65 (by decide) ⟨by omega, by omega⟩ (fun hc65 => ?_) (fun hc65 => ?_)
      · exact J74 mP pn H locs ls (by first | exact pd_0 (by omega) (by omega) (fun j _ => rfl) (fun z => by omega) (by omega) | exact pd_0 (by omega) (by omega) (fun j z => up_n (by omega)) (fun _ => up_s) (by omega)) hP hD hS (lv_sub hl [0, 1] rfl)
      · refine lv_aload_n hx hb dMo_printThing_68 rfl (lv_at hl 0 rfl) ?_
        refine lv_bipush (v := iI 45) hx hb dMo_printThing_69 (by decide) ?_
        refine cv_v (va_runV (C := "MacroReckonerModel") (As := [.int (iI 45)]) (rest := []) ⟨hx, hb, hml, hown, hts⟩ (cMo_print l dC dI dA mo ft lf hg kk tx pn tk fm tO tl mI mT mS mC mL mB mF mU mX mP mK mD mZ 45 (by omega) H.size) (cwV 1 hts (gdV wt5_93 wt5_95 ws6_4 wt1_8 wt5_96) rfl rfl rfl ⟨rfl, by decide, by decide, by decide +kernel⟩ ⟨by decide, by decide⟩) (preV (q := ("MacroReckonerModel", TMo, 23)) hK hP hD hS hA XN_ok trivial [0, 1, 2, 3, 4, 5, 6, 7, 8, 9, 10, 11, 12, 13] rfl rfl 0 rfl rfl) rfl rfl hl.1 rfl (lv_room (Nat.le_of_ble_eq_true rfl)) dMo_printThing_71 ⟨Nat.zero_le _, Nat.zero_le _⟩) hP hD hS hA [0, 1, 2, 3, 4, 5, 6, 7, 8, 9, 10, 11, 12, 13] [] rfl (fun v_ => wMo dA mo ft lf hg kk tx ((pn + 1)) tk fm tO tl mI mT mS mC mL mB mF mU mX ((up mP pn 45)) mK mD mZ []) (fun _ => rfl) ([] : va_W) rfl (fun _ => rfl) [mo, mo + 1, mo + 2, mo + 3, mo + 4, mo + 5, mo + 6, mo + 7, mo + 8, mo + 9, mo + 10, mo + 11, mo + 12, mo + 13] rfl (fun _ => rfl) (fun _ => rfl) (fun u_ H locs hq71 hP hD hS => ?_)
        have hP : va_P (dC, dI) vwCl (wMo dA mo ft lf hg kk tx ((pn + 1)) tk fm tO tl mI mT mS mC mL mB mF mU mX ((up mP pn 45)) mK mD mZ []) H := hP
        have hD : va_D A (wMo dA mo ft lf hg kk tx ((pn + 1)) tk fm tO tl mI mT mS mC mL mB mF mU mX ((up mP pn 45)) mK mD mZ []) := hD
        have hq71 : True := hq71
        exact J74 ((up mP pn 45)) ((pn + 1)) H locs ls (by first | exact pd_0 (by omega) (by omega) (fun j _ => rfl) (fun z => by omega) (by omega) | exact pd_0 (by omega) (by omega) (fun j z => up_n (by omega)) (fun _ => up_s) (by omega)) hP hD hS (lv_sub hl [0, 1] rfl)
    · obtain ⟨hz1, hz2⟩ := th_0 hTa (by omega) (by omega)
      refine lv_aload_n hx hb dMo_printThing_52 rfl (lv_at hl 0 rfl) ?_
      refine lv_bipush (v := iI 48) hx hb dMo_printThing_53 (by decide) ?_
      refine cv_v (va_runV (C := "MacroReckonerModel") (As := [.int (iI 48)]) (rest := []) ⟨hx, hb, hml, hown, hts⟩ (cMo_print l dC dI dA mo ft lf hg kk tx pn tk fm tO tl mI mT mS mC mL mB mF mU mX mP mK mD mZ 48 (by omega) H.size) (cwV 1 hts (gdV wt5_93 wt5_95 ws6_4 wt1_8 wt5_96) rfl rfl rfl ⟨rfl, by decide, by decide, by decide +kernel⟩ ⟨by decide, by decide⟩) (preV (q := ("MacroReckonerModel", TMo, 23)) hK hP hD hS hA XN_ok trivial [0, 1, 2, 3, 4, 5, 6, 7, 8, 9, 10, 11, 12, 13] rfl rfl 0 rfl rfl) rfl rfl hl.1 rfl (lv_room (Nat.le_of_ble_eq_true rfl)) dMo_printThing_55 ⟨Nat.zero_le _, Nat.zero_le _⟩) hP hD hS hA [0, 1, 2, 3, 4, 5, 6, 7, 8, 9, 10, 11, 12, 13] [] rfl (fun v_ => wMo dA mo ft lf hg kk tx ((pn + 1)) tk fm tO tl mI mT mS mC mL mB mF mU mX ((up mP pn 48)) mK mD mZ []) (fun _ => rfl) ([] : va_W) rfl (fun _ => rfl) [mo, mo + 1, mo + 2, mo + 3, mo + 4, mo + 5, mo + 6, mo + 7, mo + 8, mo + 9, mo + 10, mo + 11, mo + 12, mo + 13] rfl (fun _ => rfl) (fun _ => rfl) (fun u_ H locs hq55 hP hD hS => ?_)
      have hP : va_P (dC, dI) vwCl (wMo dA mo ft lf hg kk tx ((pn + 1)) tk fm tO tl mI mT mS mC mL mB mF mU mX ((up mP pn 48)) mK mD mZ []) H := hP
      have hD : va_D A (wMo dA mo ft lf hg kk tx ((pn + 1)) tk fm tO tl mI mT mS mC mL mB mF mU mX ((up mP pn 48)) mK mD mZ []) := hD
      have hq55 : True := hq55
      exact rt_v hx hb hr hlocks hK hS dMo_printThing_58 ((up mP pn 48), (pn + 1)) hP hD (show ((pn + 1)) = pn + thW xa ∧ (∀ j, j < pn → ((up mP pn 48)) j = mP j) ∧ ∀ j, 0 ≤ j → j < thW xa → ((up mP pn 48)) (pn + j) = thC xa j from by exact ⟨by omega, fun t z => up_n (by omega), fun t z w => by rw [show pn + t = pn by omega, up_s, hz2]⟩)
  · obtain ⟨ht1, ht2, ht3, -, -⟩ := th_t hTa (by omega)
    refine lv_iconst (v := iI 0) hx hb dMo_printThing_9 rfl ?_
    refine lv_istore_n (lv' := [(2, .int (iI 0)), (0, .ref mo), (1, .int (iI x))]) hx hb dMo_printThing_10 rfl hl (by decide) rfl (fun ls hl => ?_)
    have L11 : ∀ (n : Nat) (P7 : Int → Int) (p7 : Int) (j : Int) (H : Heap) (locs : List Loc) (ls : Array Slot), (0 ≤ j ∧ j ≤ mL x ∧ p7 = pn + j) → (∀ t, t < pn → P7 t = mP t) → (∀ t, 0 ≤ t → t < j → P7 (pn + t) = mB (60 * x + t)) → (mL x - j).toNat < n → va_P (dC, dI) vwCl (wMo dA mo ft lf hg kk tx p7 tk fm tO tl mI mT mS mC mL mB mF mU mX P7 mK mD mZ []) H → va_D A (wMo dA mo ft lf hg kk tx p7 tk fm tO tl mI mT mS mC mL mB mF mU mX P7 mK mD mZ []) → va_S A s.heap H locs → lv_has ls 3 [(2, .int (iI j)), (0, .ref mo), (1, .int (iI x))] → W p l e rmMo_printThing s m [.ref mo, .int (iI x)].toArray below meth c H locs 0 0 (MQ below (qMo_printThing dC dI dA mo ft lf hg kk tx pn tk fm tO tl mI mT mS mC mL mB mF mU mX mP mK mD mZ x xa A) [.ref mo, .int (iI x)].toArray s 0 0 A) (F0 m 11 ls []) := by
      intro n
      induction n with
      | zero => intro P7 p7 j H locs ls hj h1 h2 hn; omega
      | succ n ih =>
        intro P7 p7 j H locs ls hj h1 h2 hn hP hD hS hl
        have ih11 := ih
        refine lv_iload_n hx hb dMo_printThing_11 rfl (lv_at hl 0 rfl) ?_
        refine lv_aload_n hx hb dMo_printThing_12 rfl (lv_at hl 1 rfl) ?_
        refine va_get (D := (dC, dI)) (ci := 7) (v := .ref (mo + 5)) (C := "MacroReckonerModel") (T := TMo) (N := 23) hx hb hts inMo hown hK hP 0 rfl rfl 6 (by decide) (hts _ wt4_64) (fun _ h9 => h9) rfl dMo_printThing_13 ?_
        refine lv_iload_n hx hb dMo_printThing_16 rfl (lv_at hl 2 rfl) ?_
        refine iv_iald hx hb hK hP 5 0 rfl rfl (by decide) dMo_printThing_17 (by omega) (by omega) ?_
        refine iv_icmp_ge (tgt := 42) hx hb dMo_printThing_18 (by decide) ⟨by omega, by omega⟩ ⟨by omega, by omega⟩ (fun hc18 => ?_) (fun hc18 => ?_)
        · exact rt_v hx hb hr hlocks hK hS dMo_printThing_42 (P7, p7) hP hD (show p7 = pn + thW xa ∧ (∀ j, j < pn → P7 j = mP j) ∧ ∀ j, 0 ≤ j → j < thW xa → P7 (pn + j) = thC xa j from by exact ⟨by omega, h1, fun t z w => by rw [h2 t z (by omega), ht3 t z (by omega)]⟩)
        · refine lv_aload_n hx hb dMo_printThing_21 rfl (lv_at hl 1 rfl) ?_
          refine lv_aload_n hx hb dMo_printThing_22 rfl (lv_at hl 1 rfl) ?_
          refine va_get (D := (dC, dI)) (ci := 7) (v := .ref (mo + 6)) (C := "MacroReckonerModel") (T := TMo) (N := 23) hx hb hts inMo hown hK hP 0 rfl rfl 7 (by decide) (hts _ wt4_65) (fun _ h9 => h9) rfl dMo_printThing_23 ?_
          refine lv_bipush (v := iI 60) hx hb dMo_printThing_26 (by decide) ?_
          refine lv_iload_n hx hb dMo_printThing_28 rfl (lv_at hl 2 rfl) ?_
          refine iv_imul hx hb dMo_printThing_29 ?_
          refine lv_iload_n hx hb dMo_printThing_30 rfl (lv_at hl 0 rfl) ?_
          refine iv_iadd hx hb dMo_printThing_31 ?_
          refine iv_iald hx hb hK hP 6 0 rfl rfl (by decide) dMo_printThing_32 (by omega) (by omega) ?_
          refine cv_v (va_runV (C := "MacroReckonerModel") (As := [.int (iI (mB ((60 * x) + j)))]) (rest := []) ⟨hx, hb, hml, hown, hts⟩ (cMo_print l dC dI dA mo ft lf hg kk tx p7 tk fm tO tl mI mT mS mC mL mB mF mU mX P7 mK mD mZ (mB ((60 * x) + j)) (by omega) H.size) (cwV 1 hts (gdV wt5_93 wt5_95 ws6_4 wt1_8 wt5_96) rfl rfl rfl ⟨rfl, by decide, by decide, by decide +kernel⟩ ⟨by decide, by decide⟩) (preV (q := ("MacroReckonerModel", TMo, 23)) hK hP hD hS hA XN_ok trivial [0, 1, 2, 3, 4, 5, 6, 7, 8, 9, 10, 11, 12, 13] rfl rfl 0 rfl rfl) rfl rfl hl.1 rfl (lv_room (Nat.le_of_ble_eq_true rfl)) dMo_printThing_33 ⟨Nat.zero_le _, Nat.zero_le _⟩) hP hD hS hA [0, 1, 2, 3, 4, 5, 6, 7, 8, 9, 10, 11, 12, 13] [] rfl (fun v_ => wMo dA mo ft lf hg kk tx ((p7 + 1)) tk fm tO tl mI mT mS mC mL mB mF mU mX ((up P7 p7 (mB ((60 * x) + j)))) mK mD mZ []) (fun _ => rfl) ([] : va_W) rfl (fun _ => rfl) [mo, mo + 1, mo + 2, mo + 3, mo + 4, mo + 5, mo + 6, mo + 7, mo + 8, mo + 9, mo + 10, mo + 11, mo + 12, mo + 13] rfl (fun _ => rfl) (fun _ => rfl) (fun u_ H locs hq33 hP hD hS => ?_)
          have hP : va_P (dC, dI) vwCl (wMo dA mo ft lf hg kk tx ((p7 + 1)) tk fm tO tl mI mT mS mC mL mB mF mU mX ((up P7 p7 (mB ((60 * x) + j)))) mK mD mZ []) H := hP
          have hD : va_D A (wMo dA mo ft lf hg kk tx ((p7 + 1)) tk fm tO tl mI mT mS mC mL mB mF mU mX ((up P7 p7 (mB ((60 * x) + j)))) mK mD mZ []) := hD
          have hq33 : True := hq33
          refine lv_iinc (k := 0) (lv' := [(2, .int (iI (j + 1))), (0, .ref mo), (1, .int (iI x))]) (v := iI (j + 1)) hx hb dMo_printThing_36 hl rfl (iI_add _ _).symm (by decide) rfl (fun ls hl => ?_)
          refine lv_goto (tgt := 11) hx hb dMo_printThing_39 (by decide) ?_
          exact ih11 ((up P7 p7 (mB ((60 * x) + j)))) ((p7 + 1)) (j + 1) H locs ls (by omega) (by intro t z; rw [up_n (by omega)]; exact h1 t z) (by intro t z w; by_cases q : t = j; rw [q, show pn + j = p7 by omega, up_s]; rw [up_n (by omega)]; exact h2 t z (by omega)) (by omega) hP hD hS (lv_sub hl [0, 1, 2] rfl)
    exact L11 _ mP pn 0 H locs ls (by omega) (by intro t _; rfl) (by intro t z w; omega) (Nat.lt_succ_self _) hP hD hS (lv_sub hl [0, 1, 2] rfl)

theorem dMo_isDigit_0 : decode prog_9_method_31_code 0 = .ok (.iload_n 0, 1) := by decide +kernel
theorem dMo_isDigit_1 : decode prog_9_method_31_code 1 = .ok (.bipush 48, 2) := by decide +kernel
theorem dMo_isDigit_3 : decode prog_9_method_31_code 3 = .ok (.if_icmp .lt 13, 3) := by decide +kernel
theorem dMo_isDigit_6 : decode prog_9_method_31_code 6 = .ok (.iload_n 0, 1) := by decide +kernel
theorem dMo_isDigit_7 : decode prog_9_method_31_code 7 = .ok (.bipush 57, 2) := by decide +kernel
theorem dMo_isDigit_9 : decode prog_9_method_31_code 9 = .ok (.if_icmp .gt 7, 3) := by decide +kernel
theorem dMo_isDigit_12 : decode prog_9_method_31_code 12 = .ok (.iconst 1, 1) := by decide +kernel
theorem dMo_isDigit_13 : decode prog_9_method_31_code 13 = .ok (.goto 4, 3) := by decide +kernel
theorem dMo_isDigit_16 : decode prog_9_method_31_code 16 = .ok (.iconst 0, 1) := by decide +kernel
theorem dMo_isDigit_17 : decode prog_9_method_31_code 17 = .ok (.ireturn, 1) := by decide +kernel
abbrev qMo_isDigit (dC : Nat → ClassId) (dI : Nat → Nat → Nat) (dA : Nat → ClassId) (c0 : Int) (A : Nat → Prop) : Array Value → State → Outcome → State → Prop := QI (dC, dI) vwCl (tyA dA) (fun (r : Int) (v_ : Unit) => (r = 1 ∧ 48 ≤ c0 ∧ c0 ≤ 57) ∨ (r = 0 ∧ (c0 < 48 ∨ 57 < c0))) (fun (v_ : Unit) => ([] : va_W)) A
abbrev rmMo_isDigit : Room := { frames := 0, cells := 0, slots := 0, locals := 0 }
set_option maxRecDepth 100000 in
set_option maxHeartbeats 1000000 in
theorem cMo_isDigit (l : Launch) (dC : Nat → ClassId) (dI : Nat → Nat → Nat) (dA : Nat → ClassId) (c0 : Int) (hch : 0 ≤ c0 ∧ c0 < 65536) (sz : Nat) : Met l yMo_isDigit wsMo_isDigit rmMo_isDigit (PC (dC, dI) vwCl (tyA dA) XN [.int (iI c0)] (([] : va_W)) sz) (qMo_isDigit dC dI dA c0 (va_A (([] : va_W)) sz)) 0 0 (va_A (([] : va_W)) sz) := by
  refine met_of (cc := prog_9_method_31_code) (maxL := 1) (ret := (some .boolean)) (Qc := qMo_isDigit dC dI dA c0) XN_ok (by decide) rfl (Nat.le_of_ble_eq_true rfl) ?_
  intro p e s m below meth c ls A hx hb hr hml hown hts hlocks hnm hK hP hD hA hX hS hl
  have hl : lv_has ls 1 [(0, .int (iI c0))] := hl
  have hown : s.vm.findClass "MacroReckonerModel" = some m.cls := hown
  obtain ⟨H, hH⟩ : ∃ H : Heap, H = s.heap := ⟨_, rfl⟩
  obtain ⟨locs, hlo⟩ : ∃ L : List Loc, L = [] := ⟨_, rfl⟩
  have hP : va_P (dC, dI) vwCl (([] : va_W)) H := hH ▸ hP
  have hS : va_S A s.heap H locs := by rw [hH, hlo]; exact hS
  suffices hgo : W p l e rmMo_isDigit s m [.int (iI c0)].toArray below meth c H locs 0 0 (MQ below (qMo_isDigit dC dI dA c0 A) [.int (iI c0)].toArray s 0 0 A) (F0 m 0 ls []) by rw [hH, hlo] at hgo; exact hgo
  clear hH hlo
  refine lv_iload_n hx hb dMo_isDigit_0 rfl (lv_at hl 0 rfl) ?_
  refine lv_bipush (v := iI 48) hx hb dMo_isDigit_1 (by decide) ?_
  refine iv_icmp_lt (tgt := 16) hx hb dMo_isDigit_3 (by decide) ⟨by omega, by omega⟩ ⟨by decide, by decide⟩ (fun hc3 => ?_) (fun hc3 => ?_)
  · refine lv_iconst (v := iI 0) hx hb dMo_isDigit_16 rfl ?_
    exact rt_z hx hb hr hlocks hK hS dMo_isDigit_17 (nrw_bool (by omega)) () hP hD (show (0 = 1 ∧ 48 ≤ c0 ∧ c0 ≤ 57) ∨ (0 = 0 ∧ (c0 < 48 ∨ 57 < c0)) from by omega)
  · refine lv_iload_n hx hb dMo_isDigit_6 rfl (lv_at hl 0 rfl) ?_
    refine lv_bipush (v := iI 57) hx hb dMo_isDigit_7 (by decide) ?_
    refine iv_icmp_gt (tgt := 16) hx hb dMo_isDigit_9 (by decide) ⟨by omega, by omega⟩ ⟨by decide, by decide⟩ (fun hc9 => ?_) (fun hc9 => ?_)
    · refine lv_iconst (v := iI 0) hx hb dMo_isDigit_16 rfl ?_
      exact rt_z hx hb hr hlocks hK hS dMo_isDigit_17 (nrw_bool (by omega)) () hP hD (show (0 = 1 ∧ 48 ≤ c0 ∧ c0 ≤ 57) ∨ (0 = 0 ∧ (c0 < 48 ∨ 57 < c0)) from by omega)
    · refine lv_iconst (v := iI 1) hx hb dMo_isDigit_12 rfl ?_
      refine lv_goto (tgt := 17) hx hb dMo_isDigit_13 (by decide) ?_
      exact rt_z hx hb hr hlocks hK hS dMo_isDigit_17 (nrw_bool (by omega)) () hP hD (show (1 = 1 ∧ 48 ≤ c0 ∧ c0 ≤ 57) ∨ (1 = 0 ∧ (c0 < 48 ∨ 57 < c0)) from by omega)

theorem dMo_isPairSign_0 : decode prog_9_method_32_code 0 = .ok (.iload_n 0, 1) := by decide +kernel
theorem dMo_isPairSign_1 : decode prog_9_method_32_code 1 = .ok (.bipush 115, 2) := by decide +kernel
theorem dMo_isPairSign_3 : decode prog_9_method_32_code 3 = .ok (.if_icmp .eq 27, 3) := by decide +kernel
theorem dMo_isPairSign_6 : decode prog_9_method_32_code 6 = .ok (.iload_n 0, 1) := by decide +kernel
theorem dMo_isPairSign_7 : decode prog_9_method_32_code 7 = .ok (.bipush 108, 2) := by decide +kernel
theorem dMo_isPairSign_9 : decode prog_9_method_32_code 9 = .ok (.if_icmp .eq 21, 3) := by decide +kernel
theorem dMo_isPairSign_12 : decode prog_9_method_32_code 12 = .ok (.iload_n 0, 1) := by decide +kernel
theorem dMo_isPairSign_13 : decode prog_9_method_32_code 13 = .ok (.bipush 60, 2) := by decide +kernel
theorem dMo_isPairSign_15 : decode prog_9_method_32_code 15 = .ok (.if_icmp .eq 15, 3) := by decide +kernel
theorem dMo_isPairSign_18 : decode prog_9_method_32_code 18 = .ok (.iload_n 0, 1) := by decide +kernel
theorem dMo_isPairSign_19 : decode prog_9_method_32_code 19 = .ok (.bipush 62, 2) := by decide +kernel
theorem dMo_isPairSign_21 : decode prog_9_method_32_code 21 = .ok (.if_icmp .eq 9, 3) := by decide +kernel
theorem dMo_isPairSign_24 : decode prog_9_method_32_code 24 = .ok (.iload_n 0, 1) := by decide +kernel
theorem dMo_isPairSign_25 : decode prog_9_method_32_code 25 = .ok (.bipush 61, 2) := by decide +kernel
theorem dMo_isPairSign_27 : decode prog_9_method_32_code 27 = .ok (.if_icmp .ne 7, 3) := by decide +kernel
theorem dMo_isPairSign_30 : decode prog_9_method_32_code 30 = .ok (.iconst 1, 1) := by decide +kernel
theorem dMo_isPairSign_31 : decode prog_9_method_32_code 31 = .ok (.goto 4, 3) := by decide +kernel
theorem dMo_isPairSign_34 : decode prog_9_method_32_code 34 = .ok (.iconst 0, 1) := by decide +kernel
theorem dMo_isPairSign_35 : decode prog_9_method_32_code 35 = .ok (.ireturn, 1) := by decide +kernel
abbrev qMo_isPairSign (dC : Nat → ClassId) (dI : Nat → Nat → Nat) (dA : Nat → ClassId) (c0 : Int) (A : Nat → Prop) : Array Value → State → Outcome → State → Prop := QI (dC, dI) vwCl (tyA dA) (fun (r : Int) (v_ : Unit) => (r = 1 ∧ prs c0) ∨ (r = 0 ∧ ¬ prs c0)) (fun (v_ : Unit) => ([] : va_W)) A
abbrev rmMo_isPairSign : Room := { frames := 0, cells := 0, slots := 0, locals := 0 }
set_option maxRecDepth 100000 in
set_option maxHeartbeats 1000000 in
theorem cMo_isPairSign (l : Launch) (dC : Nat → ClassId) (dI : Nat → Nat → Nat) (dA : Nat → ClassId) (c0 : Int) (hch : 0 ≤ c0 ∧ c0 < 65536) (sz : Nat) : Met l yMo_isPairSign wsMo_isPairSign rmMo_isPairSign (PC (dC, dI) vwCl (tyA dA) XN [.int (iI c0)] (([] : va_W)) sz) (qMo_isPairSign dC dI dA c0 (va_A (([] : va_W)) sz)) 0 0 (va_A (([] : va_W)) sz) := by
  refine met_of (cc := prog_9_method_32_code) (maxL := 1) (ret := (some .boolean)) (Qc := qMo_isPairSign dC dI dA c0) XN_ok (by decide) rfl (Nat.le_of_ble_eq_true rfl) ?_
  intro p e s m below meth c ls A hx hb hr hml hown hts hlocks hnm hK hP hD hA hX hS hl
  have hl : lv_has ls 1 [(0, .int (iI c0))] := hl
  have hown : s.vm.findClass "MacroReckonerModel" = some m.cls := hown
  obtain ⟨H, hH⟩ : ∃ H : Heap, H = s.heap := ⟨_, rfl⟩
  obtain ⟨locs, hlo⟩ : ∃ L : List Loc, L = [] := ⟨_, rfl⟩
  have hP : va_P (dC, dI) vwCl (([] : va_W)) H := hH ▸ hP
  have hS : va_S A s.heap H locs := by rw [hH, hlo]; exact hS
  suffices hgo : W p l e rmMo_isPairSign s m [.int (iI c0)].toArray below meth c H locs 0 0 (MQ below (qMo_isPairSign dC dI dA c0 A) [.int (iI c0)].toArray s 0 0 A) (F0 m 0 ls []) by rw [hH, hlo] at hgo; exact hgo
  clear hH hlo
  refine lv_iload_n hx hb dMo_isPairSign_0 rfl (lv_at hl 0 rfl) ?_
  refine lv_bipush (v := iI 115) hx hb dMo_isPairSign_1 (by decide) ?_
  refine iv_icmp_eq (tgt := 30) hx hb dMo_isPairSign_3 (by decide) ⟨by omega, by omega⟩ ⟨by decide, by decide⟩ (fun hc3 => ?_) (fun hc3 => ?_)
  · refine lv_iconst (v := iI 1) hx hb dMo_isPairSign_30 rfl ?_
    refine lv_goto (tgt := 35) hx hb dMo_isPairSign_31 (by decide) ?_
    exact rt_z hx hb hr hlocks hK hS dMo_isPairSign_35 (nrw_bool (by omega)) () hP hD (show (1 = 1 ∧ prs c0) ∨ (1 = 0 ∧ ¬ prs c0) from by unfold prs; omega)
  · refine lv_iload_n hx hb dMo_isPairSign_6 rfl (lv_at hl 0 rfl) ?_
    refine lv_bipush (v := iI 108) hx hb dMo_isPairSign_7 (by decide) ?_
    refine iv_icmp_eq (tgt := 30) hx hb dMo_isPairSign_9 (by decide) ⟨by omega, by omega⟩ ⟨by decide, by decide⟩ (fun hc9 => ?_) (fun hc9 => ?_)
    · refine lv_iconst (v := iI 1) hx hb dMo_isPairSign_30 rfl ?_
      refine lv_goto (tgt := 35) hx hb dMo_isPairSign_31 (by decide) ?_
      exact rt_z hx hb hr hlocks hK hS dMo_isPairSign_35 (nrw_bool (by omega)) () hP hD (show (1 = 1 ∧ prs c0) ∨ (1 = 0 ∧ ¬ prs c0) from by unfold prs; omega)
    · refine lv_iload_n hx hb dMo_isPairSign_12 rfl (lv_at hl 0 rfl) ?_
      refine lv_bipush (v := iI 60) hx hb dMo_isPairSign_13 (by decide) ?_
      refine iv_icmp_eq (tgt := 30) hx hb dMo_isPairSign_15 (by decide) ⟨by omega, by omega⟩ ⟨by decide, by decide⟩ (fun hc15 => ?_) (fun hc15 => ?_)
      · refine lv_iconst (v := iI 1) hx hb dMo_isPairSign_30 rfl ?_
        refine lv_goto (tgt := 35) hx hb dMo_isPairSign_31 (by decide) ?_
        exact rt_z hx hb hr hlocks hK hS dMo_isPairSign_35 (nrw_bool (by omega)) () hP hD (show (1 = 1 ∧ prs c0) ∨ (1 = 0 ∧ ¬ prs c0) from by unfold prs; omega)
      · refine lv_iload_n hx hb dMo_isPairSign_18 rfl (lv_at hl 0 rfl) ?_
        refine lv_bipush (v := iI 62) hx hb dMo_isPairSign_19 (by decide) ?_
        refine iv_icmp_eq (tgt := 30) hx hb dMo_isPairSign_21 (by decide) ⟨by omega, by omega⟩ ⟨by decide, by decide⟩ (fun hc21 => ?_) (fun hc21 => ?_)
        · refine lv_iconst (v := iI 1) hx hb dMo_isPairSign_30 rfl ?_
          refine lv_goto (tgt := 35) hx hb dMo_isPairSign_31 (by decide) ?_
          exact rt_z hx hb hr hlocks hK hS dMo_isPairSign_35 (nrw_bool (by omega)) () hP hD (show (1 = 1 ∧ prs c0) ∨ (1 = 0 ∧ ¬ prs c0) from by unfold prs; omega)
        · refine lv_iload_n hx hb dMo_isPairSign_24 rfl (lv_at hl 0 rfl) ?_
          refine lv_bipush (v := iI 61) hx hb dMo_isPairSign_25 (by decide) ?_
          refine iv_icmp_ne (tgt := 34) hx hb dMo_isPairSign_27 (by decide) ⟨by omega, by omega⟩ ⟨by decide, by decide⟩ (fun hc27 => ?_) (fun hc27 => ?_)
          · refine lv_iconst (v := iI 0) hx hb dMo_isPairSign_34 rfl ?_
            exact rt_z hx hb hr hlocks hK hS dMo_isPairSign_35 (nrw_bool (by omega)) () hP hD (show (0 = 1 ∧ prs c0) ∨ (0 = 0 ∧ ¬ prs c0) from by unfold prs; omega)
          · refine lv_iconst (v := iI 1) hx hb dMo_isPairSign_30 rfl ?_
            refine lv_goto (tgt := 35) hx hb dMo_isPairSign_31 (by decide) ?_
            exact rt_z hx hb hr hlocks hK hS dMo_isPairSign_35 (nrw_bool (by omega)) () hP hD (show (1 = 1 ∧ prs c0) ∨ (1 = 0 ∧ ¬ prs c0) from by unfold prs; omega)

theorem dMo_at_0 : decode prog_9_method_33_code 0 = .ok (.aload_n 0, 1) := by decide +kernel
theorem dMo_at_1 : decode prog_9_method_33_code 1 = .ok (.getfield 120, 3) := by decide +kernel
theorem dMo_at_4 : decode prog_9_method_33_code 4 = .ok (.ifCond .le 22, 3) := by decide +kernel
theorem dMo_at_7 : decode prog_9_method_33_code 7 = .ok (.aload_n 0, 1) := by decide +kernel
theorem dMo_at_8 : decode prog_9_method_33_code 8 = .ok (.getfield 35, 3) := by decide +kernel
theorem dMo_at_11 : decode prog_9_method_33_code 11 = .ok (.bipush 60, 2) := by decide +kernel
theorem dMo_at_13 : decode prog_9_method_33_code 13 = .ok (.aload_n 0, 1) := by decide +kernel
theorem dMo_at_14 : decode prog_9_method_33_code 14 = .ok (.getfield 120, 3) := by decide +kernel
theorem dMo_at_17 : decode prog_9_method_33_code 17 = .ok (.iconst 1, 1) := by decide +kernel
theorem dMo_at_18 : decode prog_9_method_33_code 18 = .ok (.isub, 1) := by decide +kernel
theorem dMo_at_19 : decode prog_9_method_33_code 19 = .ok (.imul, 1) := by decide +kernel
theorem dMo_at_20 : decode prog_9_method_33_code 20 = .ok (.iload_n 1, 1) := by decide +kernel
theorem dMo_at_21 : decode prog_9_method_33_code 21 = .ok (.iadd, 1) := by decide +kernel
theorem dMo_at_22 : decode prog_9_method_33_code 22 = .ok (.iaload, 1) := by decide +kernel
theorem dMo_at_23 : decode prog_9_method_33_code 23 = .ok (.goto 9, 3) := by decide +kernel
theorem dMo_at_26 : decode prog_9_method_33_code 26 = .ok (.aload_n 0, 1) := by decide +kernel
theorem dMo_at_27 : decode prog_9_method_33_code 27 = .ok (.getfield 7, 3) := by decide +kernel
theorem dMo_at_30 : decode prog_9_method_33_code 30 = .ok (.iload_n 1, 1) := by decide +kernel
theorem dMo_at_31 : decode prog_9_method_33_code 31 = .ok (.iaload, 1) := by decide +kernel
theorem dMo_at_32 : decode prog_9_method_33_code 32 = .ok (.ireturn, 1) := by decide +kernel
abbrev qMo_at (dC : Nat → ClassId) (dI : Nat → Nat → Nat) (dA : Nat → ClassId) (mo : Nat) (ft : Int) (lf : Int) (hg : Int) (kk : Int) (tx : Int) (pn : Int) (tk : Int) (fm : Int) (tO : Int) (tl : Int) (mI : Int → Int) (mT : Int → Int) (mS : Int → Int) (mC : Int → Int) (mL : Int → Int) (mB : Int → Int) (mF : Int → Int) (mU : Int → Int) (mX : Int → Int) (mP : Int → Int) (mK : Int → Int) (mD : Int → Int) (mZ : Int → Int) (p9 : Int) (A : Nat → Prop) : Array Value → State → Outcome → State → Prop := QI (dC, dI) vwCl (tyA dA) (fun (r : Int) (v_ : Unit) => r = gS tx mX mI p9) (fun (v_ : Unit) => wMo dA mo ft lf hg kk tx pn tk fm tO tl mI mT mS mC mL mB mF mU mX mP mK mD mZ []) A
abbrev rmMo_at : Room := { frames := 0, cells := 0, slots := 0, locals := 0 }
set_option maxRecDepth 100000 in
set_option maxHeartbeats 1000000 in
theorem cMo_at (l : Launch) (dC : Nat → ClassId) (dI : Nat → Nat → Nat) (dA : Nat → ClassId) (mo : Nat) (ft : Int) (lf : Int) (hg : Int) (kk : Int) (tx : Int) (pn : Int) (tk : Int) (fm : Int) (tO : Int) (tl : Int) (mI : Int → Int) (mT : Int → Int) (mS : Int → Int) (mC : Int → Int) (mL : Int → Int) (mB : Int → Int) (mF : Int → Int) (mU : Int → Int) (mX : Int → Int) (mP : Int → Int) (mK : Int → Int) (mD : Int → Int) (mZ : Int → Int) (p9 : Int) (hat : (0 < tx ∧ tx ≤ 8 ∧ 0 ≤ p9 ∧ p9 < 60) ∨ (tx = 0 ∧ 0 ≤ p9 ∧ p9 < 100)) (sz : Nat) : Met l yMo_at wsMo_at rmMo_at (PC (dC, dI) vwCl (tyA dA) XN [.ref mo, .int (iI p9)] (wMo dA mo ft lf hg kk tx pn tk fm tO tl mI mT mS mC mL mB mF mU mX mP mK mD mZ []) sz) (qMo_at dC dI dA mo ft lf hg kk tx pn tk fm tO tl mI mT mS mC mL mB mF mU mX mP mK mD mZ p9 (va_A (wMo dA mo ft lf hg kk tx pn tk fm tO tl mI mT mS mC mL mB mF mU mX mP mK mD mZ []) sz)) 0 0 (va_A (wMo dA mo ft lf hg kk tx pn tk fm tO tl mI mT mS mC mL mB mF mU mX mP mK mD mZ []) sz) := by
  refine met_of (cc := prog_9_method_33_code) (maxL := 2) (ret := (some .int)) (Qc := qMo_at dC dI dA mo ft lf hg kk tx pn tk fm tO tl mI mT mS mC mL mB mF mU mX mP mK mD mZ p9) XN_ok (by decide) rfl (Nat.le_of_ble_eq_true rfl) ?_
  intro p e s m below meth c ls A hx hb hr hml hown hts hlocks hnm hK hP hD hA hX hS hl
  have hl : lv_has ls 2 [(0, .ref mo), (1, .int (iI p9))] := hl
  have hown : s.vm.findClass "MacroReckonerModel" = some m.cls := hown
  obtain ⟨H, hH⟩ : ∃ H : Heap, H = s.heap := ⟨_, rfl⟩
  obtain ⟨locs, hlo⟩ : ∃ L : List Loc, L = [] := ⟨_, rfl⟩
  have hP : va_P (dC, dI) vwCl (wMo dA mo ft lf hg kk tx pn tk fm tO tl mI mT mS mC mL mB mF mU mX mP mK mD mZ []) H := hH ▸ hP
  have hS : va_S A s.heap H locs := by rw [hH, hlo]; exact hS
  suffices hgo : W p l e rmMo_at s m [.ref mo, .int (iI p9)].toArray below meth c H locs 0 0 (MQ below (qMo_at dC dI dA mo ft lf hg kk tx pn tk fm tO tl mI mT mS mC mL mB mF mU mX mP mK mD mZ p9 A) [.ref mo, .int (iI p9)].toArray s 0 0 A) (F0 m 0 ls []) by rw [hH, hlo] at hgo; exact hgo
  clear hH hlo
  refine lv_aload_n hx hb dMo_at_0 rfl (lv_at hl 0 rfl) ?_
  refine va_get (D := (dC, dI)) (ci := 7) (v := .int (iI tx)) (C := "MacroReckonerModel") (T := TMo) (N := 23) hx hb hts inMo hown hK hP 0 rfl rfl 10 (by decide) (hts _ wt4_68) (fun _ h9 => h9) rfl dMo_at_1 ?_
  refine iv_if_le (tgt := 26) hx hb dMo_at_4 (by decide) ⟨by omega, by omega⟩ (fun hc4 => ?_) (fun hc4 => ?_)
  · refine lv_aload_n hx hb dMo_at_26 rfl (lv_at hl 0 rfl) ?_
    refine va_get (D := (dC, dI)) (ci := 7) (v := .ref (mo + 1)) (C := "MacroReckonerModel") (T := TMo) (N := 23) hx hb hts inMo hown hK hP 0 rfl rfl 2 (by decide) (hts _ wt4_60) (fun _ h9 => h9) rfl dMo_at_27 ?_
    refine lv_iload_n hx hb dMo_at_30 rfl (lv_at hl 1 rfl) ?_
    refine iv_iald hx hb hK hP 1 0 rfl rfl (by decide) dMo_at_31 (by omega) (by omega) ?_
    exact rt_i hx hb hr hlocks hK hS dMo_at_32 () hP hD (show (mI p9) = gS tx mX mI p9 from by unfold gS; (first | rw [if_pos (by omega)] | rw [if_neg (by omega)]))
  · refine lv_aload_n hx hb dMo_at_7 rfl (lv_at hl 0 rfl) ?_
    refine va_get (D := (dC, dI)) (ci := 7) (v := .ref (mo + 9)) (C := "MacroReckonerModel") (T := TMo) (N := 23) hx hb hts inMo hown hK hP 0 rfl rfl 13 (by decide) (hts _ wt4_71) (fun _ h9 => h9) rfl dMo_at_8 ?_
    refine lv_bipush (v := iI 60) hx hb dMo_at_11 (by decide) ?_
    refine lv_aload_n hx hb dMo_at_13 rfl (lv_at hl 0 rfl) ?_
    refine va_get (D := (dC, dI)) (ci := 7) (v := .int (iI tx)) (C := "MacroReckonerModel") (T := TMo) (N := 23) hx hb hts inMo hown hK hP 0 rfl rfl 10 (by decide) (hts _ wt4_68) (fun _ h9 => h9) rfl dMo_at_14 ?_
    refine lv_iconst (v := iI 1) hx hb dMo_at_17 rfl ?_
    refine iv_isub hx hb dMo_at_18 ?_
    refine iv_imul hx hb dMo_at_19 ?_
    refine lv_iload_n hx hb dMo_at_20 rfl (lv_at hl 1 rfl) ?_
    refine iv_iadd hx hb dMo_at_21 ?_
    refine iv_iald hx hb hK hP 9 0 rfl rfl (by decide) dMo_at_22 (by omega) (by omega) ?_
    refine lv_goto (tgt := 32) hx hb dMo_at_23 (by decide) ?_
    exact rt_i hx hb hr hlocks hK hS dMo_at_32 () hP hD (show (mX ((60 * (tx - 1)) + p9)) = gS tx mX mI p9 from by unfold gS; (first | rw [if_pos (by omega)] | rw [if_neg (by omega)]))

theorem dMo_lookText_0 : decode prog_9_method_35_code 0 = .ok (.iconst 1, 1) := by decide +kernel
theorem dMo_lookText_1 : decode prog_9_method_35_code 1 = .ok (.istore_n 2, 1) := by decide +kernel
theorem dMo_lookText_2 : decode prog_9_method_35_code 2 = .ok (.aload_n 0, 1) := by decide +kernel
theorem dMo_lookText_3 : decode prog_9_method_35_code 3 = .ok (.getfield 132, 3) := by decide +kernel
theorem dMo_lookText_6 : decode prog_9_method_35_code 6 = .ok (.iload_n 1, 1) := by decide +kernel
theorem dMo_lookText_7 : decode prog_9_method_35_code 7 = .ok (.if_icmp .ge 58, 3) := by decide +kernel
theorem dMo_lookText_10 : decode prog_9_method_35_code 10 = .ok (.iload_n 2, 1) := by decide +kernel
theorem dMo_lookText_11 : decode prog_9_method_35_code 11 = .ok (.ifCond .le 54, 3) := by decide +kernel
theorem dMo_lookText_14 : decode prog_9_method_35_code 14 = .ok (.iload_n 2, 1) := by decide +kernel
theorem dMo_lookText_15 : decode prog_9_method_35_code 15 = .ok (.aload_n 0, 1) := by decide +kernel
theorem dMo_lookText_16 : decode prog_9_method_35_code 16 = .ok (.aload_n 0, 1) := by decide +kernel
theorem dMo_lookText_17 : decode prog_9_method_35_code 17 = .ok (.getfield 132, 3) := by decide +kernel
theorem dMo_lookText_20 : decode prog_9_method_35_code 20 = .ok (.invokevirtual 129, 3) := by decide +kernel
theorem dMo_lookText_23 : decode prog_9_method_35_code 23 = .ok (.bipush 91, 2) := by decide +kernel
theorem dMo_lookText_25 : decode prog_9_method_35_code 25 = .ok (.if_icmp .ne 7, 3) := by decide +kernel
theorem dMo_lookText_28 : decode prog_9_method_35_code 28 = .ok (.iconst 1, 1) := by decide +kernel
theorem dMo_lookText_29 : decode prog_9_method_35_code 29 = .ok (.goto 21, 3) := by decide +kernel
theorem dMo_lookText_32 : decode prog_9_method_35_code 32 = .ok (.aload_n 0, 1) := by decide +kernel
theorem dMo_lookText_33 : decode prog_9_method_35_code 33 = .ok (.aload_n 0, 1) := by decide +kernel
theorem dMo_lookText_34 : decode prog_9_method_35_code 34 = .ok (.getfield 132, 3) := by decide +kernel
theorem dMo_lookText_37 : decode prog_9_method_35_code 37 = .ok (.invokevirtual 129, 3) := by decide +kernel
theorem dMo_lookText_40 : decode prog_9_method_35_code 40 = .ok (.bipush 93, 2) := by decide +kernel
theorem dMo_lookText_42 : decode prog_9_method_35_code 42 = .ok (.if_icmp .ne 7, 3) := by decide +kernel
theorem dMo_lookText_45 : decode prog_9_method_35_code 45 = .ok (.iconst (-1), 1) := by decide +kernel
theorem dMo_lookText_46 : decode prog_9_method_35_code 46 = .ok (.goto 4, 3) := by decide +kernel
theorem dMo_lookText_49 : decode prog_9_method_35_code 49 = .ok (.iconst 0, 1) := by decide +kernel
theorem dMo_lookText_50 : decode prog_9_method_35_code 50 = .ok (.iadd, 1) := by decide +kernel
theorem dMo_lookText_51 : decode prog_9_method_35_code 51 = .ok (.istore_n 2, 1) := by decide +kernel
theorem dMo_lookText_52 : decode prog_9_method_35_code 52 = .ok (.aload_n 0, 1) := by decide +kernel
theorem dMo_lookText_53 : decode prog_9_method_35_code 53 = .ok (.dup, 1) := by decide +kernel
theorem dMo_lookText_54 : decode prog_9_method_35_code 54 = .ok (.getfield 132, 3) := by decide +kernel
theorem dMo_lookText_57 : decode prog_9_method_35_code 57 = .ok (.iconst 1, 1) := by decide +kernel
theorem dMo_lookText_58 : decode prog_9_method_35_code 58 = .ok (.iadd, 1) := by decide +kernel
theorem dMo_lookText_59 : decode prog_9_method_35_code 59 = .ok (.putfield 132, 3) := by decide +kernel
theorem dMo_lookText_62 : decode prog_9_method_35_code 62 = .ok (.goto (-60), 3) := by decide +kernel
theorem dMo_lookText_65 : decode prog_9_method_35_code 65 = .ok (.aload_n 0, 1) := by decide +kernel
theorem dMo_lookText_66 : decode prog_9_method_35_code 66 = .ok (.iload_n 2, 1) := by decide +kernel
theorem dMo_lookText_67 : decode prog_9_method_35_code 67 = .ok (.ifCond .ne 7, 3) := by decide +kernel
theorem dMo_lookText_70 : decode prog_9_method_35_code 70 = .ok (.iconst 3, 1) := by decide +kernel
theorem dMo_lookText_71 : decode prog_9_method_35_code 71 = .ok (.goto 4, 3) := by decide +kernel
theorem dMo_lookText_74 : decode prog_9_method_35_code 74 = .ok (.iconst 1, 1) := by decide +kernel
theorem dMo_lookText_75 : decode prog_9_method_35_code 75 = .ok (.putfield 135, 3) := by decide +kernel
theorem dMo_lookText_78 : decode prog_9_method_35_code 78 = .ok (.return_, 1) := by decide +kernel
abbrev qMo_lookText (dC : Nat → ClassId) (dI : Nat → Nat → Nat) (dA : Nat → ClassId) (mo : Nat) (ft : Int) (lf : Int) (hg : Int) (kk : Int) (tx : Int) (pn : Int) (tk : Int) (fm : Int) (tO : Int) (tl : Int) (mI : Int → Int) (mT : Int → Int) (mS : Int → Int) (mC : Int → Int) (mL : Int → Int) (mB : Int → Int) (mF : Int → Int) (mU : Int → Int) (mX : Int → Int) (mP : Int → Int) (mK : Int → Int) (mD : Int → Int) (mZ : Int → Int) (e0 : Int) (A : Nat → Prop) : Array Value → State → Outcome → State → Prop := QV (dC, dI) vwCl (tyA dA) (fun (v_ : Int × Int) => (v_.1 = 3 ∧ txR (gS tx mX mI) fm e0 (v_.2 - fm)) ∨ (v_.1 = 1 ∧ txN (gS tx mX mI) fm e0 ∧ v_.2 = e0)) (fun (v_ : Int × Int) => wMo dA mo ft lf hg kk tx pn v_.1 fm v_.2 tl mI mT mS mC mL mB mF mU mX mP mK mD mZ []) A
abbrev rmMo_lookText : Room := { frames := 1, cells := 0, slots := 0, locals := 21 }
set_option maxRecDepth 100000 in
set_option maxHeartbeats 1000000 in
theorem cMo_lookText (l : Launch) (dC : Nat → ClassId) (dI : Nat → Nat → Nat) (dA : Nat → ClassId) (mo : Nat) (ft : Int) (lf : Int) (hg : Int) (kk : Int) (tx : Int) (pn : Int) (tk : Int) (fm : Int) (tO : Int) (tl : Int) (mI : Int → Int) (mT : Int → Int) (mS : Int → Int) (mC : Int → Int) (mL : Int → Int) (mB : Int → Int) (mF : Int → Int) (mU : Int → Int) (mX : Int → Int) (mP : Int → Int) (mK : Int → Int) (mD : Int → Int) (mZ : Int → Int) (e0 : Int) (hsr : (0 < tx ∧ tx ≤ 8 ∧ e0 ≤ 60) ∨ (tx = 0 ∧ e0 ≤ 100)) (hfm : 0 ≤ fm ∧ fm < e0 ∧ tO = fm + 1) (hG9 : gS tx mX mI fm = 91) (hch : ∀ j, fm ≤ j → j < e0 → 32 ≤ gS tx mX mI j ∧ gS tx mX mI j ≤ 126) (sz : Nat) : Met l yMo_lookText wsMo_lookText rmMo_lookText (PC (dC, dI) vwCl (tyA dA) XN [.ref mo, .int (iI e0)] (wMo dA mo ft lf hg kk tx pn tk fm tO tl mI mT mS mC mL mB mF mU mX mP mK mD mZ []) sz) (qMo_lookText dC dI dA mo ft lf hg kk tx pn tk fm tO tl mI mT mS mC mL mB mF mU mX mP mK mD mZ e0 (va_A (wMo dA mo ft lf hg kk tx pn tk fm tO tl mI mT mS mC mL mB mF mU mX mP mK mD mZ []) sz)) 0 0 (va_A (wMo dA mo ft lf hg kk tx pn tk fm tO tl mI mT mS mC mL mB mF mU mX mP mK mD mZ []) sz) := by
  refine met_of (cc := prog_9_method_35_code) (maxL := 3) (ret := none) (Qc := qMo_lookText dC dI dA mo ft lf hg kk tx pn tk fm tO tl mI mT mS mC mL mB mF mU mX mP mK mD mZ e0) XN_ok (by decide) rfl (Nat.le_of_ble_eq_true rfl) ?_
  intro p e s m below meth c ls A hx hb hr hml hown hts hlocks hnm hK hP hD hA hX hS hl
  have hl : lv_has ls 3 [(0, .ref mo), (1, .int (iI e0))] := hl
  have hown : s.vm.findClass "MacroReckonerModel" = some m.cls := hown
  obtain ⟨H, hH⟩ : ∃ H : Heap, H = s.heap := ⟨_, rfl⟩
  obtain ⟨locs, hlo⟩ : ∃ L : List Loc, L = [] := ⟨_, rfl⟩
  have hP : va_P (dC, dI) vwCl (wMo dA mo ft lf hg kk tx pn tk fm tO tl mI mT mS mC mL mB mF mU mX mP mK mD mZ []) H := hH ▸ hP
  have hS : va_S A s.heap H locs := by rw [hH, hlo]; exact hS
  suffices hgo : W p l e rmMo_lookText s m [.ref mo, .int (iI e0)].toArray below meth c H locs 0 0 (MQ below (qMo_lookText dC dI dA mo ft lf hg kk tx pn tk fm tO tl mI mT mS mC mL mB mF mU mX mP mK mD mZ e0 A) [.ref mo, .int (iI e0)].toArray s 0 0 A) (F0 m 0 ls []) by rw [hH, hlo] at hgo; exact hgo
  clear hH hlo
  refine lv_iconst (v := iI 1) hx hb dMo_lookText_0 rfl ?_
  refine lv_istore_n (lv' := [(2, .int (iI 1)), (0, .ref mo), (1, .int (iI e0))]) hx hb dMo_lookText_1 rfl hl (by decide) rfl (fun ls hl => ?_)
  have L2 : ∀ (n : Nat) (t9 : Int) (op : Int) (H : Heap) (locs : List Loc) (ls : Array Slot), (ltJ (gS tx mX mI) fm e0 t9 op) → (e0 - t9).toNat < n → va_P (dC, dI) vwCl (wMo dA mo ft lf hg kk tx pn tk fm t9 tl mI mT mS mC mL mB mF mU mX mP mK mD mZ []) H → va_D A (wMo dA mo ft lf hg kk tx pn tk fm t9 tl mI mT mS mC mL mB mF mU mX mP mK mD mZ []) → va_S A s.heap H locs → lv_has ls 3 [(2, .int (iI op)), (0, .ref mo), (1, .int (iI e0))] → W p l e rmMo_lookText s m [.ref mo, .int (iI e0)].toArray below meth c H locs 0 0 (MQ below (qMo_lookText dC dI dA mo ft lf hg kk tx pn tk fm tO tl mI mT mS mC mL mB mF mU mX mP mK mD mZ e0 A) [.ref mo, .int (iI e0)].toArray s 0 0 A) (F0 m 2 ls []) := by
    intro n
    induction n with
    | zero => intro t9 op H locs ls hJ hn; omega
    | succ n ih =>
      intro t9 op H locs ls hJ hn hP hD hS hl
      have hj1 := hJ.1
      have hj2 := hJ.2.1
      have hj3 := hJ.2.2.1
      have ih2 := ih
      refine lv_aload_n hx hb dMo_lookText_2 rfl (lv_at hl 1 rfl) ?_
      refine va_get (D := (dC, dI)) (ci := 7) (v := .int (iI t9)) (C := "MacroReckonerModel") (T := TMo) (N := 23) hx hb hts inMo hown hK hP 0 rfl rfl 18 (by decide) (hts _ wt4_76) (fun _ h9 => h9) rfl dMo_lookText_3 ?_
      refine lv_iload_n hx hb dMo_lookText_6 rfl (lv_at hl 2 rfl) ?_
      refine iv_icmp_ge (tgt := 65) hx hb dMo_lookText_7 (by decide) ⟨by omega, by omega⟩ ⟨by omega, by omega⟩ (fun hc7 => ?_) (fun hc7 => ?_)
      · refine lv_aload_n hx hb dMo_lookText_65 rfl (lv_at hl 1 rfl) ?_
        refine lv_iload_n hx hb dMo_lookText_66 rfl (lv_at hl 0 rfl) ?_
        refine iv_if_ne (tgt := 74) hx hb dMo_lookText_67 (by decide) ⟨by omega, by omega⟩ (fun hc67 => ?_) (fun hc67 => ?_)
        · refine lv_iconst (v := iI 1) hx hb dMo_lookText_74 rfl ?_
          refine va_put (D := (dC, dI)) (ci := 7) (v := .int (iI 1)) (ty := .int) (C := "MacroReckonerModel") (T := TMo) (N := 23) hx hb hts inMo tyMo tyMo_ok nmMo hown hK hP hD hS 0 rfl rfl 16 (by decide) (hts _ wt4_74) (fun _ h9 => h9) rfl (by decide +kernel) rfl rfl (Nat.le_of_ble_eq_true rfl) dMo_lookText_75 (fun H locs hP hD hS => ?_)
          have hP : va_P (dC, dI) vwCl (wMo dA mo ft lf hg kk tx pn 1 fm t9 tl mI mT mS mC mL mB mF mU mX mP mK mD mZ []) H := hP
          have hD : va_D A (wMo dA mo ft lf hg kk tx pn 1 fm t9 tl mI mT mS mC mL mB mF mU mX mP mK mD mZ []) := hD
          exact rt_v hx hb hr hlocks hK hS dMo_lookText_78 (1, t9) hP hD (show (1 = 3 ∧ txR (gS tx mX mI) fm e0 (t9 - fm)) ∨ (1 = 1 ∧ txN (gS tx mX mI) fm e0 ∧ t9 = e0) from by exact ltx_e hJ (by omega) (by omega))
        · refine lv_iconst (v := iI 3) hx hb dMo_lookText_70 rfl ?_
          refine lv_goto (tgt := 75) hx hb dMo_lookText_71 (by decide) ?_
          refine va_put (D := (dC, dI)) (ci := 7) (v := .int (iI 3)) (ty := .int) (C := "MacroReckonerModel") (T := TMo) (N := 23) hx hb hts inMo tyMo tyMo_ok nmMo hown hK hP hD hS 0 rfl rfl 16 (by decide) (hts _ wt4_74) (fun _ h9 => h9) rfl (by decide +kernel) rfl rfl (Nat.le_of_ble_eq_true rfl) dMo_lookText_75 (fun H locs hP hD hS => ?_)
          have hP : va_P (dC, dI) vwCl (wMo dA mo ft lf hg kk tx pn 3 fm t9 tl mI mT mS mC mL mB mF mU mX mP mK mD mZ []) H := hP
          have hD : va_D A (wMo dA mo ft lf hg kk tx pn 3 fm t9 tl mI mT mS mC mL mB mF mU mX mP mK mD mZ []) := hD
          exact rt_v hx hb hr hlocks hK hS dMo_lookText_78 (3, t9) hP hD (show (3 = 3 ∧ txR (gS tx mX mI) fm e0 (t9 - fm)) ∨ (3 = 1 ∧ txN (gS tx mX mI) fm e0 ∧ t9 = e0) from by exact ltx_e hJ (by omega) (by omega))
      · refine lv_iload_n hx hb dMo_lookText_10 rfl (lv_at hl 0 rfl) ?_
        refine iv_if_le (tgt := 65) hx hb dMo_lookText_11 (by decide) ⟨by omega, by omega⟩ (fun hc11 => ?_) (fun hc11 => ?_)
        · refine lv_aload_n hx hb dMo_lookText_65 rfl (lv_at hl 1 rfl) ?_
          refine lv_iload_n hx hb dMo_lookText_66 rfl (lv_at hl 0 rfl) ?_
          refine iv_if_ne (tgt := 74) hx hb dMo_lookText_67 (by decide) ⟨by omega, by omega⟩ (fun hc67 => ?_) (fun hc67 => ?_)
          · refine lv_iconst (v := iI 1) hx hb dMo_lookText_74 rfl ?_
            refine va_put (D := (dC, dI)) (ci := 7) (v := .int (iI 1)) (ty := .int) (C := "MacroReckonerModel") (T := TMo) (N := 23) hx hb hts inMo tyMo tyMo_ok nmMo hown hK hP hD hS 0 rfl rfl 16 (by decide) (hts _ wt4_74) (fun _ h9 => h9) rfl (by decide +kernel) rfl rfl (Nat.le_of_ble_eq_true rfl) dMo_lookText_75 (fun H locs hP hD hS => ?_)
            have hP : va_P (dC, dI) vwCl (wMo dA mo ft lf hg kk tx pn 1 fm t9 tl mI mT mS mC mL mB mF mU mX mP mK mD mZ []) H := hP
            have hD : va_D A (wMo dA mo ft lf hg kk tx pn 1 fm t9 tl mI mT mS mC mL mB mF mU mX mP mK mD mZ []) := hD
            exact rt_v hx hb hr hlocks hK hS dMo_lookText_78 (1, t9) hP hD (show (1 = 3 ∧ txR (gS tx mX mI) fm e0 (t9 - fm)) ∨ (1 = 1 ∧ txN (gS tx mX mI) fm e0 ∧ t9 = e0) from by exact ltx_e hJ (by omega) (by omega))
          · refine lv_iconst (v := iI 3) hx hb dMo_lookText_70 rfl ?_
            refine lv_goto (tgt := 75) hx hb dMo_lookText_71 (by decide) ?_
            refine va_put (D := (dC, dI)) (ci := 7) (v := .int (iI 3)) (ty := .int) (C := "MacroReckonerModel") (T := TMo) (N := 23) hx hb hts inMo tyMo tyMo_ok nmMo hown hK hP hD hS 0 rfl rfl 16 (by decide) (hts _ wt4_74) (fun _ h9 => h9) rfl (by decide +kernel) rfl rfl (Nat.le_of_ble_eq_true rfl) dMo_lookText_75 (fun H locs hP hD hS => ?_)
            have hP : va_P (dC, dI) vwCl (wMo dA mo ft lf hg kk tx pn 3 fm t9 tl mI mT mS mC mL mB mF mU mX mP mK mD mZ []) H := hP
            have hD : va_D A (wMo dA mo ft lf hg kk tx pn 3 fm t9 tl mI mT mS mC mL mB mF mU mX mP mK mD mZ []) := hD
            exact rt_v hx hb hr hlocks hK hS dMo_lookText_78 (3, t9) hP hD (show (3 = 3 ∧ txR (gS tx mX mI) fm e0 (t9 - fm)) ∨ (3 = 1 ∧ txN (gS tx mX mI) fm e0 ∧ t9 = e0) from by exact ltx_e hJ (by omega) (by omega))
        · have hcf := hch t9 (by omega) (by omega)
          refine lv_iload_n hx hb dMo_lookText_14 rfl (lv_at hl 0 rfl) ?_
          refine lv_aload_n hx hb dMo_lookText_15 rfl (lv_at hl 1 rfl) ?_
          refine lv_aload_n hx hb dMo_lookText_16 rfl (lv_at hl 1 rfl) ?_
          refine va_get (D := (dC, dI)) (ci := 7) (v := .int (iI t9)) (C := "MacroReckonerModel") (T := TMo) (N := 23) hx hb hts inMo hown hK hP 0 rfl rfl 18 (by decide) (hts _ wt4_76) (fun _ h9 => h9) rfl dMo_lookText_17 ?_
          refine cv_i (va_runV (C := "MacroReckonerModel") (As := [.int (iI t9)]) (rest := [.int (iI op)]) ⟨hx, hb, hml, hown, hts⟩ (cMo_at l dC dI dA mo ft lf hg kk tx pn tk fm t9 tl mI mT mS mC mL mB mF mU mX mP mK mD mZ t9 (by omega) H.size) (cwV 1 hts (gdV wt4_149 wt4_151 ws3_9 wt1_8 wt4_152) rfl rfl rfl ⟨rfl, by decide, by decide, by decide +kernel⟩ ⟨by decide, by decide⟩) (preV (q := ("MacroReckonerModel", TMo, 23)) hK hP hD hS hA XN_ok trivial [0, 1, 2, 3, 4, 5, 6, 7, 8, 9, 10, 11, 12, 13] rfl rfl 0 rfl rfl) rfl rfl hl.1 rfl (lv_room (Nat.le_of_ble_eq_true rfl)) dMo_lookText_20 ⟨Nat.zero_le _, Nat.zero_le _⟩) hP hD hS hA [0, 1, 2, 3, 4, 5, 6, 7, 8, 9, 10, 11, 12, 13] [] rfl (fun v_ => wMo dA mo ft lf hg kk tx pn tk fm t9 tl mI mT mS mC mL mB mF mU mX mP mK mD mZ []) (fun _ => rfl) ([] : va_W) rfl (fun _ => rfl) [mo, mo + 1, mo + 2, mo + 3, mo + 4, mo + 5, mo + 6, mo + 7, mo + 8, mo + 9, mo + 10, mo + 11, mo + 12, mo + 13] rfl (fun _ => rfl) (fun _ => rfl) (fun r20 u_ H locs hq20 hP hD hS => ?_)
          have hP : va_P (dC, dI) vwCl (wMo dA mo ft lf hg kk tx pn tk fm t9 tl mI mT mS mC mL mB mF mU mX mP mK mD mZ []) H := hP
          have hD : va_D A (wMo dA mo ft lf hg kk tx pn tk fm t9 tl mI mT mS mC mL mB mF mU mX mP mK mD mZ []) := hD
          have hq20 : r20 = gS tx mX mI t9 := hq20
          refine lv_bipush (v := iI 91) hx hb dMo_lookText_23 (by decide) ?_
          refine iv_icmp_ne (tgt := 32) hx hb dMo_lookText_25 (by decide) ⟨by omega, by omega⟩ ⟨by decide, by decide⟩ (fun hc25 => ?_) (fun hc25 => ?_)
          · refine lv_aload_n hx hb dMo_lookText_32 rfl (lv_at hl 1 rfl) ?_
            refine lv_aload_n hx hb dMo_lookText_33 rfl (lv_at hl 1 rfl) ?_
            refine va_get (D := (dC, dI)) (ci := 7) (v := .int (iI t9)) (C := "MacroReckonerModel") (T := TMo) (N := 23) hx hb hts inMo hown hK hP 0 rfl rfl 18 (by decide) (hts _ wt4_76) (fun _ h9 => h9) rfl dMo_lookText_34 ?_
            refine cv_i (va_runV (C := "MacroReckonerModel") (As := [.int (iI t9)]) (rest := [.int (iI op)]) ⟨hx, hb, hml, hown, hts⟩ (cMo_at l dC dI dA mo ft lf hg kk tx pn tk fm t9 tl mI mT mS mC mL mB mF mU mX mP mK mD mZ t9 (by omega) H.size) (cwV 1 hts (gdV wt4_149 wt4_151 ws3_9 wt1_8 wt4_152) rfl rfl rfl ⟨rfl, by decide, by decide, by decide +kernel⟩ ⟨by decide, by decide⟩) (preV (q := ("MacroReckonerModel", TMo, 23)) hK hP hD hS hA XN_ok trivial [0, 1, 2, 3, 4, 5, 6, 7, 8, 9, 10, 11, 12, 13] rfl rfl 0 rfl rfl) rfl rfl hl.1 rfl (lv_room (Nat.le_of_ble_eq_true rfl)) dMo_lookText_37 ⟨Nat.zero_le _, Nat.zero_le _⟩) hP hD hS hA [0, 1, 2, 3, 4, 5, 6, 7, 8, 9, 10, 11, 12, 13] [] rfl (fun v_ => wMo dA mo ft lf hg kk tx pn tk fm t9 tl mI mT mS mC mL mB mF mU mX mP mK mD mZ []) (fun _ => rfl) ([] : va_W) rfl (fun _ => rfl) [mo, mo + 1, mo + 2, mo + 3, mo + 4, mo + 5, mo + 6, mo + 7, mo + 8, mo + 9, mo + 10, mo + 11, mo + 12, mo + 13] rfl (fun _ => rfl) (fun _ => rfl) (fun r37 u_ H locs hq37 hP hD hS => ?_)
            have hP : va_P (dC, dI) vwCl (wMo dA mo ft lf hg kk tx pn tk fm t9 tl mI mT mS mC mL mB mF mU mX mP mK mD mZ []) H := hP
            have hD : va_D A (wMo dA mo ft lf hg kk tx pn tk fm t9 tl mI mT mS mC mL mB mF mU mX mP mK mD mZ []) := hD
            have hq37 : r37 = gS tx mX mI t9 := hq37
            refine lv_bipush (v := iI 93) hx hb dMo_lookText_40 (by decide) ?_
            refine iv_icmp_ne (tgt := 49) hx hb dMo_lookText_42 (by decide) ⟨by omega, by omega⟩ ⟨by decide, by decide⟩ (fun hc42 => ?_) (fun hc42 => ?_)
            · refine lv_iconst (v := iI 0) hx hb dMo_lookText_49 rfl ?_
              refine iv_iadd hx hb dMo_lookText_50 ?_
              refine lv_istore_n (lv' := [(2, .int (iI (op + 0))), (0, .ref mo), (1, .int (iI e0))]) hx hb dMo_lookText_51 rfl hl (by decide) rfl (fun ls hl => ?_)
              refine lv_aload_n hx hb dMo_lookText_52 rfl (lv_at hl 1 rfl) ?_
              refine lv_dup hx hb dMo_lookText_53 rfl ?_
              refine va_get (D := (dC, dI)) (ci := 7) (v := .int (iI t9)) (C := "MacroReckonerModel") (T := TMo) (N := 23) hx hb hts inMo hown hK hP 0 rfl rfl 18 (by decide) (hts _ wt4_76) (fun _ h9 => h9) rfl dMo_lookText_54 ?_
              refine lv_iconst (v := iI 1) hx hb dMo_lookText_57 rfl ?_
              refine iv_iadd hx hb dMo_lookText_58 ?_
              refine va_put (D := (dC, dI)) (ci := 7) (v := .int (iI (t9 + 1))) (ty := .int) (C := "MacroReckonerModel") (T := TMo) (N := 23) hx hb hts inMo tyMo tyMo_ok nmMo hown hK hP hD hS 0 rfl rfl 18 (by decide) (hts _ wt4_76) (fun _ h9 => h9) rfl (by decide +kernel) rfl rfl (Nat.le_of_ble_eq_true rfl) dMo_lookText_59 (fun H locs hP hD hS => ?_)
              have hP : va_P (dC, dI) vwCl (wMo dA mo ft lf hg kk tx pn tk fm (t9 + 1) tl mI mT mS mC mL mB mF mU mX mP mK mD mZ []) H := hP
              have hD : va_D A (wMo dA mo ft lf hg kk tx pn tk fm (t9 + 1) tl mI mT mS mC mL mB mF mU mX mP mK mD mZ []) := hD
              refine lv_goto (tgt := 2) hx hb dMo_lookText_62 (by decide) ?_
              exact ih2 (t9 + 1) (op + 0) H locs ls (by exact ltx_s hJ (by omega) (by omega) (by unfold brs; (first | rw [if_pos (by omega)] | (rw [if_neg (by omega)]; first | rw [if_pos (by omega)] | rw [if_neg (by omega)])))) (by omega) hP hD hS (lv_sub hl [0, 1, 2] rfl)
            · refine lv_iconst (v := iI (-1)) hx hb dMo_lookText_45 rfl ?_
              refine lv_goto (tgt := 50) hx hb dMo_lookText_46 (by decide) ?_
              refine iv_iadd hx hb dMo_lookText_50 ?_
              refine lv_istore_n (lv' := [(2, .int (iI (op + (-1)))), (0, .ref mo), (1, .int (iI e0))]) hx hb dMo_lookText_51 rfl hl (by decide) rfl (fun ls hl => ?_)
              refine lv_aload_n hx hb dMo_lookText_52 rfl (lv_at hl 1 rfl) ?_
              refine lv_dup hx hb dMo_lookText_53 rfl ?_
              refine va_get (D := (dC, dI)) (ci := 7) (v := .int (iI t9)) (C := "MacroReckonerModel") (T := TMo) (N := 23) hx hb hts inMo hown hK hP 0 rfl rfl 18 (by decide) (hts _ wt4_76) (fun _ h9 => h9) rfl dMo_lookText_54 ?_
              refine lv_iconst (v := iI 1) hx hb dMo_lookText_57 rfl ?_
              refine iv_iadd hx hb dMo_lookText_58 ?_
              refine va_put (D := (dC, dI)) (ci := 7) (v := .int (iI (t9 + 1))) (ty := .int) (C := "MacroReckonerModel") (T := TMo) (N := 23) hx hb hts inMo tyMo tyMo_ok nmMo hown hK hP hD hS 0 rfl rfl 18 (by decide) (hts _ wt4_76) (fun _ h9 => h9) rfl (by decide +kernel) rfl rfl (Nat.le_of_ble_eq_true rfl) dMo_lookText_59 (fun H locs hP hD hS => ?_)
              have hP : va_P (dC, dI) vwCl (wMo dA mo ft lf hg kk tx pn tk fm (t9 + 1) tl mI mT mS mC mL mB mF mU mX mP mK mD mZ []) H := hP
              have hD : va_D A (wMo dA mo ft lf hg kk tx pn tk fm (t9 + 1) tl mI mT mS mC mL mB mF mU mX mP mK mD mZ []) := hD
              refine lv_goto (tgt := 2) hx hb dMo_lookText_62 (by decide) ?_
              exact ih2 (t9 + 1) (op + (-1)) H locs ls (by exact ltx_s hJ (by omega) (by omega) (by unfold brs; (first | rw [if_pos (by omega)] | (rw [if_neg (by omega)]; first | rw [if_pos (by omega)] | rw [if_neg (by omega)])))) (by omega) hP hD hS (lv_sub hl [0, 1, 2] rfl)
          · refine lv_iconst (v := iI 1) hx hb dMo_lookText_28 rfl ?_
            refine lv_goto (tgt := 50) hx hb dMo_lookText_29 (by decide) ?_
            refine iv_iadd hx hb dMo_lookText_50 ?_
            refine lv_istore_n (lv' := [(2, .int (iI (op + 1))), (0, .ref mo), (1, .int (iI e0))]) hx hb dMo_lookText_51 rfl hl (by decide) rfl (fun ls hl => ?_)
            refine lv_aload_n hx hb dMo_lookText_52 rfl (lv_at hl 1 rfl) ?_
            refine lv_dup hx hb dMo_lookText_53 rfl ?_
            refine va_get (D := (dC, dI)) (ci := 7) (v := .int (iI t9)) (C := "MacroReckonerModel") (T := TMo) (N := 23) hx hb hts inMo hown hK hP 0 rfl rfl 18 (by decide) (hts _ wt4_76) (fun _ h9 => h9) rfl dMo_lookText_54 ?_
            refine lv_iconst (v := iI 1) hx hb dMo_lookText_57 rfl ?_
            refine iv_iadd hx hb dMo_lookText_58 ?_
            refine va_put (D := (dC, dI)) (ci := 7) (v := .int (iI (t9 + 1))) (ty := .int) (C := "MacroReckonerModel") (T := TMo) (N := 23) hx hb hts inMo tyMo tyMo_ok nmMo hown hK hP hD hS 0 rfl rfl 18 (by decide) (hts _ wt4_76) (fun _ h9 => h9) rfl (by decide +kernel) rfl rfl (Nat.le_of_ble_eq_true rfl) dMo_lookText_59 (fun H locs hP hD hS => ?_)
            have hP : va_P (dC, dI) vwCl (wMo dA mo ft lf hg kk tx pn tk fm (t9 + 1) tl mI mT mS mC mL mB mF mU mX mP mK mD mZ []) H := hP
            have hD : va_D A (wMo dA mo ft lf hg kk tx pn tk fm (t9 + 1) tl mI mT mS mC mL mB mF mU mX mP mK mD mZ []) := hD
            refine lv_goto (tgt := 2) hx hb dMo_lookText_62 (by decide) ?_
            exact ih2 (t9 + 1) (op + 1) H locs ls (by exact ltx_s hJ (by omega) (by omega) (by unfold brs; (first | rw [if_pos (by omega)] | (rw [if_neg (by omega)]; first | rw [if_pos (by omega)] | rw [if_neg (by omega)])))) (by omega) hP hD hS (lv_sub hl [0, 1, 2] rfl)
  exact L2 _ tO 1 H locs ls (by rw [hfm.2.2]; exact ltx_0 hG9 hfm.2.1) (Nat.lt_succ_self _) hP hD hS (lv_sub hl [0, 1, 2] rfl)

theorem dMo_lookNumeral_0 : decode prog_9_method_36_code 0 = .ok (.aload_n 0, 1) := by decide +kernel
theorem dMo_lookNumeral_1 : decode prog_9_method_36_code 1 = .ok (.aload_n 0, 1) := by decide +kernel
theorem dMo_lookNumeral_2 : decode prog_9_method_36_code 2 = .ok (.getfield 126, 3) := by decide +kernel
theorem dMo_lookNumeral_5 : decode prog_9_method_36_code 5 = .ok (.invokevirtual 129, 3) := by decide +kernel
theorem dMo_lookNumeral_8 : decode prog_9_method_36_code 8 = .ok (.bipush 95, 2) := by decide +kernel
theorem dMo_lookNumeral_10 : decode prog_9_method_36_code 10 = .ok (.if_icmp .ne 12, 3) := by decide +kernel
theorem dMo_lookNumeral_13 : decode prog_9_method_36_code 13 = .ok (.aload_n 0, 1) := by decide +kernel
theorem dMo_lookNumeral_14 : decode prog_9_method_36_code 14 = .ok (.getfield 126, 3) := by decide +kernel
theorem dMo_lookNumeral_17 : decode prog_9_method_36_code 17 = .ok (.iconst 1, 1) := by decide +kernel
theorem dMo_lookNumeral_18 : decode prog_9_method_36_code 18 = .ok (.iadd, 1) := by decide +kernel
theorem dMo_lookNumeral_19 : decode prog_9_method_36_code 19 = .ok (.goto 7, 3) := by decide +kernel
theorem dMo_lookNumeral_22 : decode prog_9_method_36_code 22 = .ok (.aload_n 0, 1) := by decide +kernel
theorem dMo_lookNumeral_23 : decode prog_9_method_36_code 23 = .ok (.getfield 126, 3) := by decide +kernel
theorem dMo_lookNumeral_26 : decode prog_9_method_36_code 26 = .ok (.istore_n 2, 1) := by decide +kernel
theorem dMo_lookNumeral_27 : decode prog_9_method_36_code 27 = .ok (.iconst 0, 1) := by decide +kernel
theorem dMo_lookNumeral_28 : decode prog_9_method_36_code 28 = .ok (.istore_n 3, 1) := by decide +kernel
theorem dMo_lookNumeral_29 : decode prog_9_method_36_code 29 = .ok (.iconst 0, 1) := by decide +kernel
theorem dMo_lookNumeral_30 : decode prog_9_method_36_code 30 = .ok (.istore 4, 2) := by decide +kernel
theorem dMo_lookNumeral_32 : decode prog_9_method_36_code 32 = .ok (.iload_n 2, 1) := by decide +kernel
theorem dMo_lookNumeral_33 : decode prog_9_method_36_code 33 = .ok (.iload_n 1, 1) := by decide +kernel
theorem dMo_lookNumeral_34 : decode prog_9_method_36_code 34 = .ok (.if_icmp .ge 75, 3) := by decide +kernel
theorem dMo_lookNumeral_37 : decode prog_9_method_36_code 37 = .ok (.aload_n 0, 1) := by decide +kernel
theorem dMo_lookNumeral_38 : decode prog_9_method_36_code 38 = .ok (.iload_n 2, 1) := by decide +kernel
theorem dMo_lookNumeral_39 : decode prog_9_method_36_code 39 = .ok (.invokevirtual 129, 3) := by decide +kernel
theorem dMo_lookNumeral_42 : decode prog_9_method_36_code 42 = .ok (.invokestatic 145, 3) := by decide +kernel
theorem dMo_lookNumeral_45 : decode prog_9_method_36_code 45 = .ok (.ifCond .ne 17, 3) := by decide +kernel
theorem dMo_lookNumeral_48 : decode prog_9_method_36_code 48 = .ok (.aload_n 0, 1) := by decide +kernel
theorem dMo_lookNumeral_49 : decode prog_9_method_36_code 49 = .ok (.iload_n 2, 1) := by decide +kernel
theorem dMo_lookNumeral_50 : decode prog_9_method_36_code 50 = .ok (.invokevirtual 129, 3) := by decide +kernel
theorem dMo_lookNumeral_53 : decode prog_9_method_36_code 53 = .ok (.bipush 46, 2) := by decide +kernel
theorem dMo_lookNumeral_55 : decode prog_9_method_36_code 55 = .ok (.if_icmp .ne 54, 3) := by decide +kernel
theorem dMo_lookNumeral_58 : decode prog_9_method_36_code 58 = .ok (.iload_n 3, 1) := by decide +kernel
theorem dMo_lookNumeral_59 : decode prog_9_method_36_code 59 = .ok (.ifCond .ne 50, 3) := by decide +kernel
theorem dMo_lookNumeral_62 : decode prog_9_method_36_code 62 = .ok (.iload_n 3, 1) := by decide +kernel
theorem dMo_lookNumeral_63 : decode prog_9_method_36_code 63 = .ok (.ifCond .ne 13, 3) := by decide +kernel
theorem dMo_lookNumeral_66 : decode prog_9_method_36_code 66 = .ok (.aload_n 0, 1) := by decide +kernel
theorem dMo_lookNumeral_67 : decode prog_9_method_36_code 67 = .ok (.iload_n 2, 1) := by decide +kernel
theorem dMo_lookNumeral_68 : decode prog_9_method_36_code 68 = .ok (.invokevirtual 129, 3) := by decide +kernel
theorem dMo_lookNumeral_71 : decode prog_9_method_36_code 71 = .ok (.bipush 46, 2) := by decide +kernel
theorem dMo_lookNumeral_73 : decode prog_9_method_36_code 73 = .ok (.if_icmp .ne 7, 3) := by decide +kernel
theorem dMo_lookNumeral_76 : decode prog_9_method_36_code 76 = .ok (.iconst 1, 1) := by decide +kernel
theorem dMo_lookNumeral_77 : decode prog_9_method_36_code 77 = .ok (.goto 4, 3) := by decide +kernel
theorem dMo_lookNumeral_80 : decode prog_9_method_36_code 80 = .ok (.iconst 0, 1) := by decide +kernel
theorem dMo_lookNumeral_81 : decode prog_9_method_36_code 81 = .ok (.istore_n 3, 1) := by decide +kernel
theorem dMo_lookNumeral_82 : decode prog_9_method_36_code 82 = .ok (.aload_n 0, 1) := by decide +kernel
theorem dMo_lookNumeral_83 : decode prog_9_method_36_code 83 = .ok (.iload_n 2, 1) := by decide +kernel
theorem dMo_lookNumeral_84 : decode prog_9_method_36_code 84 = .ok (.invokevirtual 129, 3) := by decide +kernel
theorem dMo_lookNumeral_87 : decode prog_9_method_36_code 87 = .ok (.bipush 46, 2) := by decide +kernel
theorem dMo_lookNumeral_89 : decode prog_9_method_36_code 89 = .ok (.if_icmp .ne 8, 3) := by decide +kernel
theorem dMo_lookNumeral_92 : decode prog_9_method_36_code 92 = .ok (.iload 4, 2) := by decide +kernel
theorem dMo_lookNumeral_94 : decode prog_9_method_36_code 94 = .ok (.goto 7, 3) := by decide +kernel
theorem dMo_lookNumeral_97 : decode prog_9_method_36_code 97 = .ok (.iload 4, 2) := by decide +kernel
theorem dMo_lookNumeral_99 : decode prog_9_method_36_code 99 = .ok (.iconst 1, 1) := by decide +kernel
theorem dMo_lookNumeral_100 : decode prog_9_method_36_code 100 = .ok (.iadd, 1) := by decide +kernel
theorem dMo_lookNumeral_101 : decode prog_9_method_36_code 101 = .ok (.istore 4, 2) := by decide +kernel
theorem dMo_lookNumeral_103 : decode prog_9_method_36_code 103 = .ok (.iinc 2 1, 3) := by decide +kernel
theorem dMo_lookNumeral_106 : decode prog_9_method_36_code 106 = .ok (.goto (-74), 3) := by decide +kernel
theorem dMo_lookNumeral_109 : decode prog_9_method_36_code 109 = .ok (.iload_n 2, 1) := by decide +kernel
theorem dMo_lookNumeral_110 : decode prog_9_method_36_code 110 = .ok (.iload_n 1, 1) := by decide +kernel
theorem dMo_lookNumeral_111 : decode prog_9_method_36_code 111 = .ok (.if_icmp .ne 28, 3) := by decide +kernel
theorem dMo_lookNumeral_114 : decode prog_9_method_36_code 114 = .ok (.aload_n 0, 1) := by decide +kernel
theorem dMo_lookNumeral_115 : decode prog_9_method_36_code 115 = .ok (.getfield 120, 3) := by decide +kernel
theorem dMo_lookNumeral_118 : decode prog_9_method_36_code 118 = .ok (.ifCond .eq 8, 3) := by decide +kernel
theorem dMo_lookNumeral_121 : decode prog_9_method_36_code 121 = .ok (.iload 4, 2) := by decide +kernel
theorem dMo_lookNumeral_123 : decode prog_9_method_36_code 123 = .ok (.ifCond .ne 16, 3) := by decide +kernel
theorem dMo_lookNumeral_126 : decode prog_9_method_36_code 126 = .ok (.aload_n 0, 1) := by decide +kernel
theorem dMo_lookNumeral_127 : decode prog_9_method_36_code 127 = .ok (.iconst 1, 1) := by decide +kernel
theorem dMo_lookNumeral_128 : decode prog_9_method_36_code 128 = .ok (.putfield 135, 3) := by decide +kernel
theorem dMo_lookNumeral_131 : decode prog_9_method_36_code 131 = .ok (.aload_n 0, 1) := by decide +kernel
theorem dMo_lookNumeral_132 : decode prog_9_method_36_code 132 = .ok (.iload_n 1, 1) := by decide +kernel
theorem dMo_lookNumeral_133 : decode prog_9_method_36_code 133 = .ok (.putfield 132, 3) := by decide +kernel
theorem dMo_lookNumeral_136 : decode prog_9_method_36_code 136 = .ok (.goto 26, 3) := by decide +kernel
theorem dMo_lookNumeral_139 : decode prog_9_method_36_code 139 = .ok (.iload 4, 2) := by decide +kernel
theorem dMo_lookNumeral_141 : decode prog_9_method_36_code 141 = .ok (.ifCond .le 16, 3) := by decide +kernel
theorem dMo_lookNumeral_144 : decode prog_9_method_36_code 144 = .ok (.aload_n 0, 1) := by decide +kernel
theorem dMo_lookNumeral_145 : decode prog_9_method_36_code 145 = .ok (.iconst 2, 1) := by decide +kernel
theorem dMo_lookNumeral_146 : decode prog_9_method_36_code 146 = .ok (.putfield 135, 3) := by decide +kernel
theorem dMo_lookNumeral_149 : decode prog_9_method_36_code 149 = .ok (.aload_n 0, 1) := by decide +kernel
theorem dMo_lookNumeral_150 : decode prog_9_method_36_code 150 = .ok (.iload_n 2, 1) := by decide +kernel
theorem dMo_lookNumeral_151 : decode prog_9_method_36_code 151 = .ok (.putfield 132, 3) := by decide +kernel
theorem dMo_lookNumeral_154 : decode prog_9_method_36_code 154 = .ok (.goto 8, 3) := by decide +kernel
theorem dMo_lookNumeral_157 : decode prog_9_method_36_code 157 = .ok (.aload_n 0, 1) := by decide +kernel
theorem dMo_lookNumeral_158 : decode prog_9_method_36_code 158 = .ok (.iconst 5, 1) := by decide +kernel
theorem dMo_lookNumeral_159 : decode prog_9_method_36_code 159 = .ok (.putfield 135, 3) := by decide +kernel
theorem dMo_lookNumeral_162 : decode prog_9_method_36_code 162 = .ok (.return_, 1) := by decide +kernel
abbrev qMo_lookNumeral (dC : Nat → ClassId) (dI : Nat → Nat → Nat) (dA : Nat → ClassId) (mo : Nat) (ft : Int) (lf : Int) (hg : Int) (kk : Int) (tx : Int) (pn : Int) (tk : Int) (fm : Int) (tO : Int) (tl : Int) (mI : Int → Int) (mT : Int → Int) (mS : Int → Int) (mC : Int → Int) (mL : Int → Int) (mB : Int → Int) (mF : Int → Int) (mU : Int → Int) (mX : Int → Int) (mP : Int → Int) (mK : Int → Int) (mD : Int → Int) (mZ : Int → Int) (e0 : Int) (A : Nat → Prop) : Array Value → State → Outcome → State → Prop := QV (dC, dI) vwCl (tyA dA) (fun (v_ : Int × Int × Int) => nmR (gS tx mX mI) (np (gS tx mX mI) fm) e0 v_.2.2 ∧ ((v_.2.2 = e0 ∧ (tx = 0 ∨ ¬ hasD (gS tx mX mI) (np (gS tx mX mI) fm) v_.2.2) ∧ v_.1 = 1 ∧ v_.2.1 = e0) ∨ (hasD (gS tx mX mI) (np (gS tx mX mI) fm) v_.2.2 ∧ (v_.2.2 < e0 ∨ tx ≠ 0) ∧ v_.1 = 2 ∧ v_.2.1 = v_.2.2) ∨ (¬ hasD (gS tx mX mI) (np (gS tx mX mI) fm) v_.2.2 ∧ v_.2.2 < e0 ∧ v_.1 = 5 ∧ v_.2.1 = fm + 1))) (fun (v_ : Int × Int × Int) => wMo dA mo ft lf hg kk tx pn v_.1 fm v_.2.1 tl mI mT mS mC mL mB mF mU mX mP mK mD mZ []) A
abbrev rmMo_lookNumeral : Room := { frames := 1, cells := 0, slots := 0, locals := 21 }
set_option maxRecDepth 100000 in
set_option maxHeartbeats 1000000 in
theorem cMo_lookNumeral (l : Launch) (dC : Nat → ClassId) (dI : Nat → Nat → Nat) (dA : Nat → ClassId) (mo : Nat) (ft : Int) (lf : Int) (hg : Int) (kk : Int) (tx : Int) (pn : Int) (tk : Int) (fm : Int) (tO : Int) (tl : Int) (mI : Int → Int) (mT : Int → Int) (mS : Int → Int) (mC : Int → Int) (mL : Int → Int) (mB : Int → Int) (mF : Int → Int) (mU : Int → Int) (mX : Int → Int) (mP : Int → Int) (mK : Int → Int) (mD : Int → Int) (mZ : Int → Int) (e0 : Int) (hsr : (0 < tx ∧ tx ≤ 8 ∧ e0 ≤ 60) ∨ (tx = 0 ∧ e0 ≤ 100)) (hfm : 0 ≤ fm ∧ fm < e0 ∧ tO = fm + 1) (hch : ∀ j, fm ≤ j → j < e0 → 32 ≤ gS tx mX mI j ∧ gS tx mX mI j ≤ 126) (sz : Nat) : Met l yMo_lookNumeral wsMo_lookNumeral rmMo_lookNumeral (PC (dC, dI) vwCl (tyA dA) XN [.ref mo, .int (iI e0)] (wMo dA mo ft lf hg kk tx pn tk fm tO tl mI mT mS mC mL mB mF mU mX mP mK mD mZ []) sz) (qMo_lookNumeral dC dI dA mo ft lf hg kk tx pn tk fm tO tl mI mT mS mC mL mB mF mU mX mP mK mD mZ e0 (va_A (wMo dA mo ft lf hg kk tx pn tk fm tO tl mI mT mS mC mL mB mF mU mX mP mK mD mZ []) sz)) 0 0 (va_A (wMo dA mo ft lf hg kk tx pn tk fm tO tl mI mT mS mC mL mB mF mU mX mP mK mD mZ []) sz) := by
  refine met_of (cc := prog_9_method_36_code) (maxL := 5) (ret := none) (Qc := qMo_lookNumeral dC dI dA mo ft lf hg kk tx pn tk fm tO tl mI mT mS mC mL mB mF mU mX mP mK mD mZ e0) XN_ok (by decide) rfl (Nat.le_of_ble_eq_true rfl) ?_
  intro p e s m below meth c ls A hx hb hr hml hown hts hlocks hnm hK hP hD hA hX hS hl
  have hl : lv_has ls 5 [(0, .ref mo), (1, .int (iI e0))] := hl
  have hown : s.vm.findClass "MacroReckonerModel" = some m.cls := hown
  obtain ⟨H, hH⟩ : ∃ H : Heap, H = s.heap := ⟨_, rfl⟩
  obtain ⟨locs, hlo⟩ : ∃ L : List Loc, L = [] := ⟨_, rfl⟩
  have hP : va_P (dC, dI) vwCl (wMo dA mo ft lf hg kk tx pn tk fm tO tl mI mT mS mC mL mB mF mU mX mP mK mD mZ []) H := hH ▸ hP
  have hS : va_S A s.heap H locs := by rw [hH, hlo]; exact hS
  suffices hgo : W p l e rmMo_lookNumeral s m [.ref mo, .int (iI e0)].toArray below meth c H locs 0 0 (MQ below (qMo_lookNumeral dC dI dA mo ft lf hg kk tx pn tk fm tO tl mI mT mS mC mL mB mF mU mX mP mK mD mZ e0 A) [.ref mo, .int (iI e0)].toArray s 0 0 A) (F0 m 0 ls []) by rw [hH, hlo] at hgo; exact hgo
  clear hH hlo
  have hc0 := hch fm (by omega) (by omega)
  refine lv_aload_n hx hb dMo_lookNumeral_0 rfl (lv_at hl 0 rfl) ?_
  refine lv_aload_n hx hb dMo_lookNumeral_1 rfl (lv_at hl 0 rfl) ?_
  refine va_get (D := (dC, dI)) (ci := 7) (v := .int (iI fm)) (C := "MacroReckonerModel") (T := TMo) (N := 23) hx hb hts inMo hown hK hP 0 rfl rfl 17 (by decide) (hts _ wt4_75) (fun _ h9 => h9) rfl dMo_lookNumeral_2 ?_
  refine cv_i (va_runV (C := "MacroReckonerModel") (As := [.int (iI fm)]) (rest := []) ⟨hx, hb, hml, hown, hts⟩ (cMo_at l dC dI dA mo ft lf hg kk tx pn tk fm tO tl mI mT mS mC mL mB mF mU mX mP mK mD mZ fm (by omega) H.size) (cwV 1 hts (gdV wt4_149 wt4_151 ws3_9 wt1_8 wt4_152) rfl rfl rfl ⟨rfl, by decide, by decide, by decide +kernel⟩ ⟨by decide, by decide⟩) (preV (q := ("MacroReckonerModel", TMo, 23)) hK hP hD hS hA XN_ok trivial [0, 1, 2, 3, 4, 5, 6, 7, 8, 9, 10, 11, 12, 13] rfl rfl 0 rfl rfl) rfl rfl hl.1 rfl (lv_room (Nat.le_of_ble_eq_true rfl)) dMo_lookNumeral_5 ⟨Nat.zero_le _, Nat.zero_le _⟩) hP hD hS hA [0, 1, 2, 3, 4, 5, 6, 7, 8, 9, 10, 11, 12, 13] [] rfl (fun v_ => wMo dA mo ft lf hg kk tx pn tk fm tO tl mI mT mS mC mL mB mF mU mX mP mK mD mZ []) (fun _ => rfl) ([] : va_W) rfl (fun _ => rfl) [mo, mo + 1, mo + 2, mo + 3, mo + 4, mo + 5, mo + 6, mo + 7, mo + 8, mo + 9, mo + 10, mo + 11, mo + 12, mo + 13] rfl (fun _ => rfl) (fun _ => rfl) (fun r5 u_ H locs hq5 hP hD hS => ?_)
  have hP : va_P (dC, dI) vwCl (wMo dA mo ft lf hg kk tx pn tk fm tO tl mI mT mS mC mL mB mF mU mX mP mK mD mZ []) H := hP
  have hD : va_D A (wMo dA mo ft lf hg kk tx pn tk fm tO tl mI mT mS mC mL mB mF mU mX mP mK mD mZ []) := hD
  have hq5 : r5 = gS tx mX mI fm := hq5
  refine lv_bipush (v := iI 95) hx hb dMo_lookNumeral_8 (by decide) ?_
  have J27 : ∀ (p0 : Int) (H : Heap) (locs : List Loc) (ls : Array Slot), (p0 = np (gS tx mX mI) fm ∧ fm ≤ p0 ∧ p0 ≤ fm + 1) → va_P (dC, dI) vwCl (wMo dA mo ft lf hg kk tx pn tk fm tO tl mI mT mS mC mL mB mF mU mX mP mK mD mZ []) H → va_D A (wMo dA mo ft lf hg kk tx pn tk fm tO tl mI mT mS mC mL mB mF mU mX mP mK mD mZ []) → va_S A s.heap H locs → lv_has ls 5 [(0, .ref mo), (1, .int (iI e0)), (2, .int (iI p0))] → W p l e rmMo_lookNumeral s m [.ref mo, .int (iI e0)].toArray below meth c H locs 0 0 (MQ below (qMo_lookNumeral dC dI dA mo ft lf hg kk tx pn tk fm tO tl mI mT mS mC mL mB mF mU mX mP mK mD mZ e0 A) [.ref mo, .int (iI e0)].toArray s 0 0 A) (F0 m 27 ls []) := by
    intro p0 H locs ls hp0 hP hD hS hl
    refine lv_iconst (v := iI 0) hx hb dMo_lookNumeral_27 rfl ?_
    refine lv_istore_n (lv' := [(3, .int (iI 0)), (0, .ref mo), (1, .int (iI e0)), (2, .int (iI p0))]) hx hb dMo_lookNumeral_28 rfl hl (by decide) rfl (fun ls hl => ?_)
    refine lv_iconst (v := iI 0) hx hb dMo_lookNumeral_29 rfl ?_
    refine lv_istore (lv' := [(4, .int (iI 0)), (3, .int (iI 0)), (0, .ref mo), (1, .int (iI e0)), (2, .int (iI p0))]) hx hb dMo_lookNumeral_30 hl (by decide) rfl (fun ls hl => ?_)
    have L32 : ∀ (n : Nat) (i9 : Int) (pt : Int) (dg9 : Int) (H : Heap) (locs : List Loc) (ls : Array Slot), (p0 ≤ i9 ∧ i9 ≤ e0) → (nmJ (gS tx mX mI) p0 i9 dg9 pt) → (e0 - i9).toNat < n → va_P (dC, dI) vwCl (wMo dA mo ft lf hg kk tx pn tk fm tO tl mI mT mS mC mL mB mF mU mX mP mK mD mZ []) H → va_D A (wMo dA mo ft lf hg kk tx pn tk fm tO tl mI mT mS mC mL mB mF mU mX mP mK mD mZ []) → va_S A s.heap H locs → lv_has ls 5 [(4, .int (iI dg9)), (3, .int (iI pt)), (0, .ref mo), (1, .int (iI e0)), (2, .int (iI i9))] → W p l e rmMo_lookNumeral s m [.ref mo, .int (iI e0)].toArray below meth c H locs 0 0 (MQ below (qMo_lookNumeral dC dI dA mo ft lf hg kk tx pn tk fm tO tl mI mT mS mC mL mB mF mU mX mP mK mD mZ e0 A) [.ref mo, .int (iI e0)].toArray s 0 0 A) (F0 m 32 ls []) := by
      intro n
      induction n with
      | zero => intro i9 pt dg9 H locs ls hi9 hJ hn; omega
      | succ n ih =>
        intro i9 pt dg9 H locs ls hi9 hJ hn hP hD hS hl
        have hj2 := hJ.2.1
        have hj3 := hJ.2.2.1
        have ih32 := ih
        refine lv_iload_n hx hb dMo_lookNumeral_32 rfl (lv_at hl 4 rfl) ?_
        refine lv_iload_n hx hb dMo_lookNumeral_33 rfl (lv_at hl 3 rfl) ?_
        refine iv_icmp_ge (tgt := 109) hx hb dMo_lookNumeral_34 (by decide) ⟨by omega, by omega⟩ ⟨by omega, by omega⟩ (fun hc34 => ?_) (fun hc34 => ?_)
        · have hR9 := nmz_e hJ (show i9 ≤ e0 by omega) (by omega)
          refine lv_iload_n hx hb dMo_lookNumeral_109 rfl (lv_at hl 4 rfl) ?_
          refine lv_iload_n hx hb dMo_lookNumeral_110 rfl (lv_at hl 3 rfl) ?_
          refine iv_icmp_ne (tgt := 139) hx hb dMo_lookNumeral_111 (by decide) ⟨by omega, by omega⟩ ⟨by omega, by omega⟩ (fun hc111 => ?_) (fun hc111 => ?_)
          · refine lv_iload hx hb dMo_lookNumeral_139 (lv_at hl 0 rfl) ?_
            refine iv_if_le (tgt := 157) hx hb dMo_lookNumeral_141 (by decide) ⟨by omega, by omega⟩ (fun hc141 => ?_) (fun hc141 => ?_)
            · refine lv_aload_n hx hb dMo_lookNumeral_157 rfl (lv_at hl 2 rfl) ?_
              refine lv_iconst (v := iI 5) hx hb dMo_lookNumeral_158 rfl ?_
              refine va_put (D := (dC, dI)) (ci := 7) (v := .int (iI 5)) (ty := .int) (C := "MacroReckonerModel") (T := TMo) (N := 23) hx hb hts inMo tyMo tyMo_ok nmMo hown hK hP hD hS 0 rfl rfl 16 (by decide) (hts _ wt4_74) (fun _ h9 => h9) rfl (by decide +kernel) rfl rfl (Nat.le_of_ble_eq_true rfl) dMo_lookNumeral_159 (fun H locs hP hD hS => ?_)
              have hP : va_P (dC, dI) vwCl (wMo dA mo ft lf hg kk tx pn 5 fm tO tl mI mT mS mC mL mB mF mU mX mP mK mD mZ []) H := hP
              have hD : va_D A (wMo dA mo ft lf hg kk tx pn 5 fm tO tl mI mT mS mC mL mB mF mU mX mP mK mD mZ []) := hD
              exact rt_v hx hb hr hlocks hK hS dMo_lookNumeral_162 (5, tO, i9) hP hD (show nmR (gS tx mX mI) (np (gS tx mX mI) fm) e0 i9 ∧ ((i9 = e0 ∧ (tx = 0 ∨ ¬ hasD (gS tx mX mI) (np (gS tx mX mI) fm) i9) ∧ 5 = 1 ∧ tO = e0) ∨ (hasD (gS tx mX mI) (np (gS tx mX mI) fm) i9 ∧ (i9 < e0 ∨ tx ≠ 0) ∧ 5 = 2 ∧ tO = i9) ∨ (¬ hasD (gS tx mX mI) (np (gS tx mX mI) fm) i9 ∧ i9 < e0 ∧ 5 = 5 ∧ tO = fm + 1)) from by rw [← hp0.1]; refine ⟨hR9, ?_⟩; first | exact Or.inl ⟨by omega, Or.inl (by omega), rfl, rfl⟩ | exact Or.inl ⟨by omega, Or.inr (hJ.2.2.2.2.2.2.2 (by omega)), rfl, rfl⟩ | exact Or.inr (Or.inl ⟨hJ.2.2.2.2.2.2.1 (by omega), by omega, rfl, rfl⟩) | exact Or.inr (Or.inr ⟨hJ.2.2.2.2.2.2.2 (by omega), by omega, rfl, by omega⟩))
            · refine lv_aload_n hx hb dMo_lookNumeral_144 rfl (lv_at hl 2 rfl) ?_
              refine lv_iconst (v := iI 2) hx hb dMo_lookNumeral_145 rfl ?_
              refine va_put (D := (dC, dI)) (ci := 7) (v := .int (iI 2)) (ty := .int) (C := "MacroReckonerModel") (T := TMo) (N := 23) hx hb hts inMo tyMo tyMo_ok nmMo hown hK hP hD hS 0 rfl rfl 16 (by decide) (hts _ wt4_74) (fun _ h9 => h9) rfl (by decide +kernel) rfl rfl (Nat.le_of_ble_eq_true rfl) dMo_lookNumeral_146 (fun H locs hP hD hS => ?_)
              have hP : va_P (dC, dI) vwCl (wMo dA mo ft lf hg kk tx pn 2 fm tO tl mI mT mS mC mL mB mF mU mX mP mK mD mZ []) H := hP
              have hD : va_D A (wMo dA mo ft lf hg kk tx pn 2 fm tO tl mI mT mS mC mL mB mF mU mX mP mK mD mZ []) := hD
              refine lv_aload_n hx hb dMo_lookNumeral_149 rfl (lv_at hl 2 rfl) ?_
              refine lv_iload_n hx hb dMo_lookNumeral_150 rfl (lv_at hl 4 rfl) ?_
              refine va_put (D := (dC, dI)) (ci := 7) (v := .int (iI i9)) (ty := .int) (C := "MacroReckonerModel") (T := TMo) (N := 23) hx hb hts inMo tyMo tyMo_ok nmMo hown hK hP hD hS 0 rfl rfl 18 (by decide) (hts _ wt4_76) (fun _ h9 => h9) rfl (by decide +kernel) rfl rfl (Nat.le_of_ble_eq_true rfl) dMo_lookNumeral_151 (fun H locs hP hD hS => ?_)
              have hP : va_P (dC, dI) vwCl (wMo dA mo ft lf hg kk tx pn 2 fm i9 tl mI mT mS mC mL mB mF mU mX mP mK mD mZ []) H := hP
              have hD : va_D A (wMo dA mo ft lf hg kk tx pn 2 fm i9 tl mI mT mS mC mL mB mF mU mX mP mK mD mZ []) := hD
              refine lv_goto (tgt := 162) hx hb dMo_lookNumeral_154 (by decide) ?_
              exact rt_v hx hb hr hlocks hK hS dMo_lookNumeral_162 (2, i9, i9) hP hD (show nmR (gS tx mX mI) (np (gS tx mX mI) fm) e0 i9 ∧ ((i9 = e0 ∧ (tx = 0 ∨ ¬ hasD (gS tx mX mI) (np (gS tx mX mI) fm) i9) ∧ 2 = 1 ∧ i9 = e0) ∨ (hasD (gS tx mX mI) (np (gS tx mX mI) fm) i9 ∧ (i9 < e0 ∨ tx ≠ 0) ∧ 2 = 2 ∧ i9 = i9) ∨ (¬ hasD (gS tx mX mI) (np (gS tx mX mI) fm) i9 ∧ i9 < e0 ∧ 2 = 5 ∧ i9 = fm + 1)) from by rw [← hp0.1]; refine ⟨hR9, ?_⟩; first | exact Or.inl ⟨by omega, Or.inl (by omega), rfl, rfl⟩ | exact Or.inl ⟨by omega, Or.inr (hJ.2.2.2.2.2.2.2 (by omega)), rfl, rfl⟩ | exact Or.inr (Or.inl ⟨hJ.2.2.2.2.2.2.1 (by omega), by omega, rfl, rfl⟩) | exact Or.inr (Or.inr ⟨hJ.2.2.2.2.2.2.2 (by omega), by omega, rfl, by omega⟩))
          · refine lv_aload_n hx hb dMo_lookNumeral_114 rfl (lv_at hl 2 rfl) ?_
            refine va_get (D := (dC, dI)) (ci := 7) (v := .int (iI tx)) (C := "MacroReckonerModel") (T := TMo) (N := 23) hx hb hts inMo hown hK hP 0 rfl rfl 10 (by decide) (hts _ wt4_68) (fun _ h9 => h9) rfl dMo_lookNumeral_115 ?_
            refine iv_if_eq (tgt := 126) hx hb dMo_lookNumeral_118 (by decide) ⟨by omega, by omega⟩ (fun hc118 => ?_) (fun hc118 => ?_)
            · refine lv_aload_n hx hb dMo_lookNumeral_126 rfl (lv_at hl 2 rfl) ?_
              refine lv_iconst (v := iI 1) hx hb dMo_lookNumeral_127 rfl ?_
              refine va_put (D := (dC, dI)) (ci := 7) (v := .int (iI 1)) (ty := .int) (C := "MacroReckonerModel") (T := TMo) (N := 23) hx hb hts inMo tyMo tyMo_ok nmMo hown hK hP hD hS 0 rfl rfl 16 (by decide) (hts _ wt4_74) (fun _ h9 => h9) rfl (by decide +kernel) rfl rfl (Nat.le_of_ble_eq_true rfl) dMo_lookNumeral_128 (fun H locs hP hD hS => ?_)
              have hP : va_P (dC, dI) vwCl (wMo dA mo ft lf hg kk tx pn 1 fm tO tl mI mT mS mC mL mB mF mU mX mP mK mD mZ []) H := hP
              have hD : va_D A (wMo dA mo ft lf hg kk tx pn 1 fm tO tl mI mT mS mC mL mB mF mU mX mP mK mD mZ []) := hD
              refine lv_aload_n hx hb dMo_lookNumeral_131 rfl (lv_at hl 2 rfl) ?_
              refine lv_iload_n hx hb dMo_lookNumeral_132 rfl (lv_at hl 3 rfl) ?_
              refine va_put (D := (dC, dI)) (ci := 7) (v := .int (iI e0)) (ty := .int) (C := "MacroReckonerModel") (T := TMo) (N := 23) hx hb hts inMo tyMo tyMo_ok nmMo hown hK hP hD hS 0 rfl rfl 18 (by decide) (hts _ wt4_76) (fun _ h9 => h9) rfl (by decide +kernel) rfl rfl (Nat.le_of_ble_eq_true rfl) dMo_lookNumeral_133 (fun H locs hP hD hS => ?_)
              have hP : va_P (dC, dI) vwCl (wMo dA mo ft lf hg kk tx pn 1 fm e0 tl mI mT mS mC mL mB mF mU mX mP mK mD mZ []) H := hP
              have hD : va_D A (wMo dA mo ft lf hg kk tx pn 1 fm e0 tl mI mT mS mC mL mB mF mU mX mP mK mD mZ []) := hD
              refine lv_goto (tgt := 162) hx hb dMo_lookNumeral_136 (by decide) ?_
              exact rt_v hx hb hr hlocks hK hS dMo_lookNumeral_162 (1, e0, i9) hP hD (show nmR (gS tx mX mI) (np (gS tx mX mI) fm) e0 i9 ∧ ((i9 = e0 ∧ (tx = 0 ∨ ¬ hasD (gS tx mX mI) (np (gS tx mX mI) fm) i9) ∧ 1 = 1 ∧ e0 = e0) ∨ (hasD (gS tx mX mI) (np (gS tx mX mI) fm) i9 ∧ (i9 < e0 ∨ tx ≠ 0) ∧ 1 = 2 ∧ e0 = i9) ∨ (¬ hasD (gS tx mX mI) (np (gS tx mX mI) fm) i9 ∧ i9 < e0 ∧ 1 = 5 ∧ e0 = fm + 1)) from by rw [← hp0.1]; refine ⟨hR9, ?_⟩; first | exact Or.inl ⟨by omega, Or.inl (by omega), rfl, rfl⟩ | exact Or.inl ⟨by omega, Or.inr (hJ.2.2.2.2.2.2.2 (by omega)), rfl, rfl⟩ | exact Or.inr (Or.inl ⟨hJ.2.2.2.2.2.2.1 (by omega), by omega, rfl, rfl⟩) | exact Or.inr (Or.inr ⟨hJ.2.2.2.2.2.2.2 (by omega), by omega, rfl, by omega⟩))
            · refine lv_iload hx hb dMo_lookNumeral_121 (lv_at hl 0 rfl) ?_
              refine iv_if_ne (tgt := 139) hx hb dMo_lookNumeral_123 (by decide) ⟨by omega, by omega⟩ (fun hc123 => ?_) (fun hc123 => ?_)
              · refine lv_iload hx hb dMo_lookNumeral_139 (lv_at hl 0 rfl) ?_
                refine iv_if_le (tgt := 157) hx hb dMo_lookNumeral_141 (by decide) ⟨by omega, by omega⟩ (fun hc141 => ?_) (fun hc141 => ?_)
                · refine lv_aload_n hx hb dMo_lookNumeral_157 rfl (lv_at hl 2 rfl) ?_
                  refine lv_iconst (v := iI 5) hx hb dMo_lookNumeral_158 rfl ?_
                  refine va_put (D := (dC, dI)) (ci := 7) (v := .int (iI 5)) (ty := .int) (C := "MacroReckonerModel") (T := TMo) (N := 23) hx hb hts inMo tyMo tyMo_ok nmMo hown hK hP hD hS 0 rfl rfl 16 (by decide) (hts _ wt4_74) (fun _ h9 => h9) rfl (by decide +kernel) rfl rfl (Nat.le_of_ble_eq_true rfl) dMo_lookNumeral_159 (fun H locs hP hD hS => ?_)
                  have hP : va_P (dC, dI) vwCl (wMo dA mo ft lf hg kk tx pn 5 fm tO tl mI mT mS mC mL mB mF mU mX mP mK mD mZ []) H := hP
                  have hD : va_D A (wMo dA mo ft lf hg kk tx pn 5 fm tO tl mI mT mS mC mL mB mF mU mX mP mK mD mZ []) := hD
                  exact rt_v hx hb hr hlocks hK hS dMo_lookNumeral_162 (5, tO, i9) hP hD (show nmR (gS tx mX mI) (np (gS tx mX mI) fm) e0 i9 ∧ ((i9 = e0 ∧ (tx = 0 ∨ ¬ hasD (gS tx mX mI) (np (gS tx mX mI) fm) i9) ∧ 5 = 1 ∧ tO = e0) ∨ (hasD (gS tx mX mI) (np (gS tx mX mI) fm) i9 ∧ (i9 < e0 ∨ tx ≠ 0) ∧ 5 = 2 ∧ tO = i9) ∨ (¬ hasD (gS tx mX mI) (np (gS tx mX mI) fm) i9 ∧ i9 < e0 ∧ 5 = 5 ∧ tO = fm + 1)) from by rw [← hp0.1]; refine ⟨hR9, ?_⟩; first | exact Or.inl ⟨by omega, Or.inl (by omega), rfl, rfl⟩ | exact Or.inl ⟨by omega, Or.inr (hJ.2.2.2.2.2.2.2 (by omega)), rfl, rfl⟩ | exact Or.inr (Or.inl ⟨hJ.2.2.2.2.2.2.1 (by omega), by omega, rfl, rfl⟩) | exact Or.inr (Or.inr ⟨hJ.2.2.2.2.2.2.2 (by omega), by omega, rfl, by omega⟩))
                · refine lv_aload_n hx hb dMo_lookNumeral_144 rfl (lv_at hl 2 rfl) ?_
                  refine lv_iconst (v := iI 2) hx hb dMo_lookNumeral_145 rfl ?_
                  refine va_put (D := (dC, dI)) (ci := 7) (v := .int (iI 2)) (ty := .int) (C := "MacroReckonerModel") (T := TMo) (N := 23) hx hb hts inMo tyMo tyMo_ok nmMo hown hK hP hD hS 0 rfl rfl 16 (by decide) (hts _ wt4_74) (fun _ h9 => h9) rfl (by decide +kernel) rfl rfl (Nat.le_of_ble_eq_true rfl) dMo_lookNumeral_146 (fun H locs hP hD hS => ?_)
                  have hP : va_P (dC, dI) vwCl (wMo dA mo ft lf hg kk tx pn 2 fm tO tl mI mT mS mC mL mB mF mU mX mP mK mD mZ []) H := hP
                  have hD : va_D A (wMo dA mo ft lf hg kk tx pn 2 fm tO tl mI mT mS mC mL mB mF mU mX mP mK mD mZ []) := hD
                  refine lv_aload_n hx hb dMo_lookNumeral_149 rfl (lv_at hl 2 rfl) ?_
                  refine lv_iload_n hx hb dMo_lookNumeral_150 rfl (lv_at hl 4 rfl) ?_
                  refine va_put (D := (dC, dI)) (ci := 7) (v := .int (iI i9)) (ty := .int) (C := "MacroReckonerModel") (T := TMo) (N := 23) hx hb hts inMo tyMo tyMo_ok nmMo hown hK hP hD hS 0 rfl rfl 18 (by decide) (hts _ wt4_76) (fun _ h9 => h9) rfl (by decide +kernel) rfl rfl (Nat.le_of_ble_eq_true rfl) dMo_lookNumeral_151 (fun H locs hP hD hS => ?_)
                  have hP : va_P (dC, dI) vwCl (wMo dA mo ft lf hg kk tx pn 2 fm i9 tl mI mT mS mC mL mB mF mU mX mP mK mD mZ []) H := hP
                  have hD : va_D A (wMo dA mo ft lf hg kk tx pn 2 fm i9 tl mI mT mS mC mL mB mF mU mX mP mK mD mZ []) := hD
                  refine lv_goto (tgt := 162) hx hb dMo_lookNumeral_154 (by decide) ?_
                  exact rt_v hx hb hr hlocks hK hS dMo_lookNumeral_162 (2, i9, i9) hP hD (show nmR (gS tx mX mI) (np (gS tx mX mI) fm) e0 i9 ∧ ((i9 = e0 ∧ (tx = 0 ∨ ¬ hasD (gS tx mX mI) (np (gS tx mX mI) fm) i9) ∧ 2 = 1 ∧ i9 = e0) ∨ (hasD (gS tx mX mI) (np (gS tx mX mI) fm) i9 ∧ (i9 < e0 ∨ tx ≠ 0) ∧ 2 = 2 ∧ i9 = i9) ∨ (¬ hasD (gS tx mX mI) (np (gS tx mX mI) fm) i9 ∧ i9 < e0 ∧ 2 = 5 ∧ i9 = fm + 1)) from by rw [← hp0.1]; refine ⟨hR9, ?_⟩; first | exact Or.inl ⟨by omega, Or.inl (by omega), rfl, rfl⟩ | exact Or.inl ⟨by omega, Or.inr (hJ.2.2.2.2.2.2.2 (by omega)), rfl, rfl⟩ | exact Or.inr (Or.inl ⟨hJ.2.2.2.2.2.2.1 (by omega), by omega, rfl, rfl⟩) | exact Or.inr (Or.inr ⟨hJ.2.2.2.2.2.2.2 (by omega), by omega, rfl, by omega⟩))
              · refine lv_aload_n hx hb dMo_lookNumeral_126 rfl (lv_at hl 2 rfl) ?_
                refine lv_iconst (v := iI 1) hx hb dMo_lookNumeral_127 rfl ?_
                refine va_put (D := (dC, dI)) (ci := 7) (v := .int (iI 1)) (ty := .int) (C := "MacroReckonerModel") (T := TMo) (N := 23) hx hb hts inMo tyMo tyMo_ok nmMo hown hK hP hD hS 0 rfl rfl 16 (by decide) (hts _ wt4_74) (fun _ h9 => h9) rfl (by decide +kernel) rfl rfl (Nat.le_of_ble_eq_true rfl) dMo_lookNumeral_128 (fun H locs hP hD hS => ?_)
                have hP : va_P (dC, dI) vwCl (wMo dA mo ft lf hg kk tx pn 1 fm tO tl mI mT mS mC mL mB mF mU mX mP mK mD mZ []) H := hP
                have hD : va_D A (wMo dA mo ft lf hg kk tx pn 1 fm tO tl mI mT mS mC mL mB mF mU mX mP mK mD mZ []) := hD
                refine lv_aload_n hx hb dMo_lookNumeral_131 rfl (lv_at hl 2 rfl) ?_
                refine lv_iload_n hx hb dMo_lookNumeral_132 rfl (lv_at hl 3 rfl) ?_
                refine va_put (D := (dC, dI)) (ci := 7) (v := .int (iI e0)) (ty := .int) (C := "MacroReckonerModel") (T := TMo) (N := 23) hx hb hts inMo tyMo tyMo_ok nmMo hown hK hP hD hS 0 rfl rfl 18 (by decide) (hts _ wt4_76) (fun _ h9 => h9) rfl (by decide +kernel) rfl rfl (Nat.le_of_ble_eq_true rfl) dMo_lookNumeral_133 (fun H locs hP hD hS => ?_)
                have hP : va_P (dC, dI) vwCl (wMo dA mo ft lf hg kk tx pn 1 fm e0 tl mI mT mS mC mL mB mF mU mX mP mK mD mZ []) H := hP
                have hD : va_D A (wMo dA mo ft lf hg kk tx pn 1 fm e0 tl mI mT mS mC mL mB mF mU mX mP mK mD mZ []) := hD
                refine lv_goto (tgt := 162) hx hb dMo_lookNumeral_136 (by decide) ?_
                exact rt_v hx hb hr hlocks hK hS dMo_lookNumeral_162 (1, e0, i9) hP hD (show nmR (gS tx mX mI) (np (gS tx mX mI) fm) e0 i9 ∧ ((i9 = e0 ∧ (tx = 0 ∨ ¬ hasD (gS tx mX mI) (np (gS tx mX mI) fm) i9) ∧ 1 = 1 ∧ e0 = e0) ∨ (hasD (gS tx mX mI) (np (gS tx mX mI) fm) i9 ∧ (i9 < e0 ∨ tx ≠ 0) ∧ 1 = 2 ∧ e0 = i9) ∨ (¬ hasD (gS tx mX mI) (np (gS tx mX mI) fm) i9 ∧ i9 < e0 ∧ 1 = 5 ∧ e0 = fm + 1)) from by rw [← hp0.1]; refine ⟨hR9, ?_⟩; first | exact Or.inl ⟨by omega, Or.inl (by omega), rfl, rfl⟩ | exact Or.inl ⟨by omega, Or.inr (hJ.2.2.2.2.2.2.2 (by omega)), rfl, rfl⟩ | exact Or.inr (Or.inl ⟨hJ.2.2.2.2.2.2.1 (by omega), by omega, rfl, rfl⟩) | exact Or.inr (Or.inr ⟨hJ.2.2.2.2.2.2.2 (by omega), by omega, rfl, by omega⟩))
        · have hcf := hch i9 (by omega) (by omega)
          refine lv_aload_n hx hb dMo_lookNumeral_37 rfl (lv_at hl 2 rfl) ?_
          refine lv_iload_n hx hb dMo_lookNumeral_38 rfl (lv_at hl 4 rfl) ?_
          refine cv_i (va_runV (C := "MacroReckonerModel") (As := [.int (iI i9)]) (rest := []) ⟨hx, hb, hml, hown, hts⟩ (cMo_at l dC dI dA mo ft lf hg kk tx pn tk fm tO tl mI mT mS mC mL mB mF mU mX mP mK mD mZ i9 (by omega) H.size) (cwV 1 hts (gdV wt4_149 wt4_151 ws3_9 wt1_8 wt4_152) rfl rfl rfl ⟨rfl, by decide, by decide, by decide +kernel⟩ ⟨by decide, by decide⟩) (preV (q := ("MacroReckonerModel", TMo, 23)) hK hP hD hS hA XN_ok trivial [0, 1, 2, 3, 4, 5, 6, 7, 8, 9, 10, 11, 12, 13] rfl rfl 0 rfl rfl) rfl rfl hl.1 rfl (lv_room (Nat.le_of_ble_eq_true rfl)) dMo_lookNumeral_39 ⟨Nat.zero_le _, Nat.zero_le _⟩) hP hD hS hA [0, 1, 2, 3, 4, 5, 6, 7, 8, 9, 10, 11, 12, 13] [] rfl (fun v_ => wMo dA mo ft lf hg kk tx pn tk fm tO tl mI mT mS mC mL mB mF mU mX mP mK mD mZ []) (fun _ => rfl) ([] : va_W) rfl (fun _ => rfl) [mo, mo + 1, mo + 2, mo + 3, mo + 4, mo + 5, mo + 6, mo + 7, mo + 8, mo + 9, mo + 10, mo + 11, mo + 12, mo + 13] rfl (fun _ => rfl) (fun _ => rfl) (fun r39 u_ H locs hq39 hP hD hS => ?_)
          have hP : va_P (dC, dI) vwCl (wMo dA mo ft lf hg kk tx pn tk fm tO tl mI mT mS mC mL mB mF mU mX mP mK mD mZ []) H := hP
          have hD : va_D A (wMo dA mo ft lf hg kk tx pn tk fm tO tl mI mT mS mC mL mB mF mU mX mP mK mD mZ []) := hD
          have hq39 : r39 = gS tx mX mI i9 := hq39
          refine cv_i (va_runS (As := [.int (iI r39)]) (rest := []) ⟨hx, hb, hml, hown, hts⟩ (cMo_isDigit l dC dI dA r39 (by omega) H.size) (cwS 1 hts (gdS wt4_160 wt4_161 wt1_8 wt4_162) rfl rfl rfl ⟨rfl, by decide, by decide, by decide +kernel⟩ ⟨by decide, by decide⟩) (preS hK hP hD hS hA XN_ok trivial [] rfl rfl) rfl rfl hl.1 rfl (lv_room (Nat.le_of_ble_eq_true rfl)) dMo_lookNumeral_42 ⟨Nat.zero_le _, Nat.zero_le _⟩) hP hD hS hA [] [0, 1, 2, 3, 4, 5, 6, 7, 8, 9, 10, 11, 12, 13] rfl (fun v_ => wMo dA mo ft lf hg kk tx pn tk fm tO tl mI mT mS mC mL mB mF mU mX mP mK mD mZ []) (fun _ => rfl) (wMo dA mo ft lf hg kk tx pn tk fm tO tl mI mT mS mC mL mB mF mU mX mP mK mD mZ []) rfl (fun _ => rfl) [mo, mo + 1, mo + 2, mo + 3, mo + 4, mo + 5, mo + 6, mo + 7, mo + 8, mo + 9, mo + 10, mo + 11, mo + 12, mo + 13] rfl (fun _ => rfl) (fun _ => rfl) (fun r42 u_ H locs hq42 hP hD hS => ?_)
          have hP : va_P (dC, dI) vwCl (wMo dA mo ft lf hg kk tx pn tk fm tO tl mI mT mS mC mL mB mF mU mX mP mK mD mZ []) H := hP
          have hD : va_D A (wMo dA mo ft lf hg kk tx pn tk fm tO tl mI mT mS mC mL mB mF mU mX mP mK mD mZ []) := hD
          have hq42 : (r42 = 1 ∧ 48 ≤ r39 ∧ r39 ≤ 57) ∨ (r42 = 0 ∧ (r39 < 48 ∨ 57 < r39)) := hq42
          refine iv_if_ne (tgt := 62) hx hb dMo_lookNumeral_45 (by decide) ⟨by omega, by omega⟩ (fun hc45 => ?_) (fun hc45 => ?_)
          · refine lv_iload_n hx hb dMo_lookNumeral_62 rfl (lv_at hl 1 rfl) ?_
            refine iv_if_ne (tgt := 76) hx hb dMo_lookNumeral_63 (by decide) ⟨by omega, by omega⟩ (fun hc63 => ?_) (fun hc63 => ?_)
            · refine lv_iconst (v := iI 1) hx hb dMo_lookNumeral_76 rfl ?_
              refine lv_goto (tgt := 81) hx hb dMo_lookNumeral_77 (by decide) ?_
              refine lv_istore_n (lv' := [(3, .int (iI 1)), (4, .int (iI dg9)), (0, .ref mo), (1, .int (iI e0)), (2, .int (iI i9))]) hx hb dMo_lookNumeral_81 rfl hl (by decide) rfl (fun ls hl => ?_)
              refine lv_aload_n hx hb dMo_lookNumeral_82 rfl (lv_at hl 2 rfl) ?_
              refine lv_iload_n hx hb dMo_lookNumeral_83 rfl (lv_at hl 4 rfl) ?_
              refine cv_i (va_runV (C := "MacroReckonerModel") (As := [.int (iI i9)]) (rest := []) ⟨hx, hb, hml, hown, hts⟩ (cMo_at l dC dI dA mo ft lf hg kk tx pn tk fm tO tl mI mT mS mC mL mB mF mU mX mP mK mD mZ i9 (by omega) H.size) (cwV 1 hts (gdV wt4_149 wt4_151 ws3_9 wt1_8 wt4_152) rfl rfl rfl ⟨rfl, by decide, by decide, by decide +kernel⟩ ⟨by decide, by decide⟩) (preV (q := ("MacroReckonerModel", TMo, 23)) hK hP hD hS hA XN_ok trivial [0, 1, 2, 3, 4, 5, 6, 7, 8, 9, 10, 11, 12, 13] rfl rfl 0 rfl rfl) rfl rfl hl.1 rfl (lv_room (Nat.le_of_ble_eq_true rfl)) dMo_lookNumeral_84 ⟨Nat.zero_le _, Nat.zero_le _⟩) hP hD hS hA [0, 1, 2, 3, 4, 5, 6, 7, 8, 9, 10, 11, 12, 13] [] rfl (fun v_ => wMo dA mo ft lf hg kk tx pn tk fm tO tl mI mT mS mC mL mB mF mU mX mP mK mD mZ []) (fun _ => rfl) ([] : va_W) rfl (fun _ => rfl) [mo, mo + 1, mo + 2, mo + 3, mo + 4, mo + 5, mo + 6, mo + 7, mo + 8, mo + 9, mo + 10, mo + 11, mo + 12, mo + 13] rfl (fun _ => rfl) (fun _ => rfl) (fun r84 u_ H locs hq84 hP hD hS => ?_)
              have hP : va_P (dC, dI) vwCl (wMo dA mo ft lf hg kk tx pn tk fm tO tl mI mT mS mC mL mB mF mU mX mP mK mD mZ []) H := hP
              have hD : va_D A (wMo dA mo ft lf hg kk tx pn tk fm tO tl mI mT mS mC mL mB mF mU mX mP mK mD mZ []) := hD
              have hq84 : r84 = gS tx mX mI i9 := hq84
              refine lv_bipush (v := iI 46) hx hb dMo_lookNumeral_87 (by decide) ?_
              refine iv_icmp_ne (tgt := 97) hx hb dMo_lookNumeral_89 (by decide) ⟨by omega, by omega⟩ ⟨by decide, by decide⟩ (fun hc89 => ?_) (fun hc89 => absurd hc89 (by omega))
              refine lv_iload hx hb dMo_lookNumeral_97 (lv_at hl 1 rfl) ?_
              refine lv_iconst (v := iI 1) hx hb dMo_lookNumeral_99 rfl ?_
              refine iv_iadd hx hb dMo_lookNumeral_100 ?_
              refine lv_istore (lv' := [(4, .int (iI (dg9 + 1))), (3, .int (iI 1)), (0, .ref mo), (1, .int (iI e0)), (2, .int (iI i9))]) hx hb dMo_lookNumeral_101 hl (by decide) rfl (fun ls hl => ?_)
              refine lv_iinc (k := 4) (lv' := [(2, .int (iI (i9 + 1))), (4, .int (iI (dg9 + 1))), (3, .int (iI 1)), (0, .ref mo), (1, .int (iI e0))]) (v := iI (i9 + 1)) hx hb dMo_lookNumeral_103 hl rfl (iI_add _ _).symm (by decide) rfl (fun ls hl => ?_)
              refine lv_goto (tgt := 32) hx hb dMo_lookNumeral_106 (by decide) ?_
              exact ih32 (i9 + 1) 1 (dg9 + 1) H locs ls (by omega) (by first | (have h := nmz_d hJ (show 48 ≤ gS tx mX mI i9 ∧ gS tx mX mI i9 ≤ 57 by omega); (first | rw [show pt = 1 by omega] at h | rw [show pt = 0 by omega] at h); exact h) | (have h := nmz_p hJ (by omega) (by omega); rw [show pt + 1 = 1 by omega] at h; exact h)) (by omega) hP hD hS (lv_sub hl [1, 2, 3, 4, 0] rfl)
            · refine lv_aload_n hx hb dMo_lookNumeral_66 rfl (lv_at hl 2 rfl) ?_
              refine lv_iload_n hx hb dMo_lookNumeral_67 rfl (lv_at hl 4 rfl) ?_
              refine cv_i (va_runV (C := "MacroReckonerModel") (As := [.int (iI i9)]) (rest := []) ⟨hx, hb, hml, hown, hts⟩ (cMo_at l dC dI dA mo ft lf hg kk tx pn tk fm tO tl mI mT mS mC mL mB mF mU mX mP mK mD mZ i9 (by omega) H.size) (cwV 1 hts (gdV wt4_149 wt4_151 ws3_9 wt1_8 wt4_152) rfl rfl rfl ⟨rfl, by decide, by decide, by decide +kernel⟩ ⟨by decide, by decide⟩) (preV (q := ("MacroReckonerModel", TMo, 23)) hK hP hD hS hA XN_ok trivial [0, 1, 2, 3, 4, 5, 6, 7, 8, 9, 10, 11, 12, 13] rfl rfl 0 rfl rfl) rfl rfl hl.1 rfl (lv_room (Nat.le_of_ble_eq_true rfl)) dMo_lookNumeral_68 ⟨Nat.zero_le _, Nat.zero_le _⟩) hP hD hS hA [0, 1, 2, 3, 4, 5, 6, 7, 8, 9, 10, 11, 12, 13] [] rfl (fun v_ => wMo dA mo ft lf hg kk tx pn tk fm tO tl mI mT mS mC mL mB mF mU mX mP mK mD mZ []) (fun _ => rfl) ([] : va_W) rfl (fun _ => rfl) [mo, mo + 1, mo + 2, mo + 3, mo + 4, mo + 5, mo + 6, mo + 7, mo + 8, mo + 9, mo + 10, mo + 11, mo + 12, mo + 13] rfl (fun _ => rfl) (fun _ => rfl) (fun r68 u_ H locs hq68 hP hD hS => ?_)
              have hP : va_P (dC, dI) vwCl (wMo dA mo ft lf hg kk tx pn tk fm tO tl mI mT mS mC mL mB mF mU mX mP mK mD mZ []) H := hP
              have hD : va_D A (wMo dA mo ft lf hg kk tx pn tk fm tO tl mI mT mS mC mL mB mF mU mX mP mK mD mZ []) := hD
              have hq68 : r68 = gS tx mX mI i9 := hq68
              refine lv_bipush (v := iI 46) hx hb dMo_lookNumeral_71 (by decide) ?_
              refine iv_icmp_ne (tgt := 80) hx hb dMo_lookNumeral_73 (by decide) ⟨by omega, by omega⟩ ⟨by decide, by decide⟩ (fun hc73 => ?_) (fun hc73 => absurd hc73 (by omega))
              refine lv_iconst (v := iI 0) hx hb dMo_lookNumeral_80 rfl ?_
              refine lv_istore_n (lv' := [(3, .int (iI 0)), (4, .int (iI dg9)), (0, .ref mo), (1, .int (iI e0)), (2, .int (iI i9))]) hx hb dMo_lookNumeral_81 rfl hl (by decide) rfl (fun ls hl => ?_)
              refine lv_aload_n hx hb dMo_lookNumeral_82 rfl (lv_at hl 2 rfl) ?_
              refine lv_iload_n hx hb dMo_lookNumeral_83 rfl (lv_at hl 4 rfl) ?_
              refine cv_i (va_runV (C := "MacroReckonerModel") (As := [.int (iI i9)]) (rest := []) ⟨hx, hb, hml, hown, hts⟩ (cMo_at l dC dI dA mo ft lf hg kk tx pn tk fm tO tl mI mT mS mC mL mB mF mU mX mP mK mD mZ i9 (by omega) H.size) (cwV 1 hts (gdV wt4_149 wt4_151 ws3_9 wt1_8 wt4_152) rfl rfl rfl ⟨rfl, by decide, by decide, by decide +kernel⟩ ⟨by decide, by decide⟩) (preV (q := ("MacroReckonerModel", TMo, 23)) hK hP hD hS hA XN_ok trivial [0, 1, 2, 3, 4, 5, 6, 7, 8, 9, 10, 11, 12, 13] rfl rfl 0 rfl rfl) rfl rfl hl.1 rfl (lv_room (Nat.le_of_ble_eq_true rfl)) dMo_lookNumeral_84 ⟨Nat.zero_le _, Nat.zero_le _⟩) hP hD hS hA [0, 1, 2, 3, 4, 5, 6, 7, 8, 9, 10, 11, 12, 13] [] rfl (fun v_ => wMo dA mo ft lf hg kk tx pn tk fm tO tl mI mT mS mC mL mB mF mU mX mP mK mD mZ []) (fun _ => rfl) ([] : va_W) rfl (fun _ => rfl) [mo, mo + 1, mo + 2, mo + 3, mo + 4, mo + 5, mo + 6, mo + 7, mo + 8, mo + 9, mo + 10, mo + 11, mo + 12, mo + 13] rfl (fun _ => rfl) (fun _ => rfl) (fun r84 u_ H locs hq84 hP hD hS => ?_)
              have hP : va_P (dC, dI) vwCl (wMo dA mo ft lf hg kk tx pn tk fm tO tl mI mT mS mC mL mB mF mU mX mP mK mD mZ []) H := hP
              have hD : va_D A (wMo dA mo ft lf hg kk tx pn tk fm tO tl mI mT mS mC mL mB mF mU mX mP mK mD mZ []) := hD
              have hq84 : r84 = gS tx mX mI i9 := hq84
              refine lv_bipush (v := iI 46) hx hb dMo_lookNumeral_87 (by decide) ?_
              refine iv_icmp_ne (tgt := 97) hx hb dMo_lookNumeral_89 (by decide) ⟨by omega, by omega⟩ ⟨by decide, by decide⟩ (fun hc89 => ?_) (fun hc89 => absurd hc89 (by omega))
              refine lv_iload hx hb dMo_lookNumeral_97 (lv_at hl 1 rfl) ?_
              refine lv_iconst (v := iI 1) hx hb dMo_lookNumeral_99 rfl ?_
              refine iv_iadd hx hb dMo_lookNumeral_100 ?_
              refine lv_istore (lv' := [(4, .int (iI (dg9 + 1))), (3, .int (iI 0)), (0, .ref mo), (1, .int (iI e0)), (2, .int (iI i9))]) hx hb dMo_lookNumeral_101 hl (by decide) rfl (fun ls hl => ?_)
              refine lv_iinc (k := 4) (lv' := [(2, .int (iI (i9 + 1))), (4, .int (iI (dg9 + 1))), (3, .int (iI 0)), (0, .ref mo), (1, .int (iI e0))]) (v := iI (i9 + 1)) hx hb dMo_lookNumeral_103 hl rfl (iI_add _ _).symm (by decide) rfl (fun ls hl => ?_)
              refine lv_goto (tgt := 32) hx hb dMo_lookNumeral_106 (by decide) ?_
              exact ih32 (i9 + 1) 0 (dg9 + 1) H locs ls (by omega) (by first | (have h := nmz_d hJ (show 48 ≤ gS tx mX mI i9 ∧ gS tx mX mI i9 ≤ 57 by omega); (first | rw [show pt = 1 by omega] at h | rw [show pt = 0 by omega] at h); exact h) | (have h := nmz_p hJ (by omega) (by omega); rw [show pt + 1 = 1 by omega] at h; exact h)) (by omega) hP hD hS (lv_sub hl [1, 2, 3, 4, 0] rfl)
          · refine lv_aload_n hx hb dMo_lookNumeral_48 rfl (lv_at hl 2 rfl) ?_
            refine lv_iload_n hx hb dMo_lookNumeral_49 rfl (lv_at hl 4 rfl) ?_
            refine cv_i (va_runV (C := "MacroReckonerModel") (As := [.int (iI i9)]) (rest := []) ⟨hx, hb, hml, hown, hts⟩ (cMo_at l dC dI dA mo ft lf hg kk tx pn tk fm tO tl mI mT mS mC mL mB mF mU mX mP mK mD mZ i9 (by omega) H.size) (cwV 1 hts (gdV wt4_149 wt4_151 ws3_9 wt1_8 wt4_152) rfl rfl rfl ⟨rfl, by decide, by decide, by decide +kernel⟩ ⟨by decide, by decide⟩) (preV (q := ("MacroReckonerModel", TMo, 23)) hK hP hD hS hA XN_ok trivial [0, 1, 2, 3, 4, 5, 6, 7, 8, 9, 10, 11, 12, 13] rfl rfl 0 rfl rfl) rfl rfl hl.1 rfl (lv_room (Nat.le_of_ble_eq_true rfl)) dMo_lookNumeral_50 ⟨Nat.zero_le _, Nat.zero_le _⟩) hP hD hS hA [0, 1, 2, 3, 4, 5, 6, 7, 8, 9, 10, 11, 12, 13] [] rfl (fun v_ => wMo dA mo ft lf hg kk tx pn tk fm tO tl mI mT mS mC mL mB mF mU mX mP mK mD mZ []) (fun _ => rfl) ([] : va_W) rfl (fun _ => rfl) [mo, mo + 1, mo + 2, mo + 3, mo + 4, mo + 5, mo + 6, mo + 7, mo + 8, mo + 9, mo + 10, mo + 11, mo + 12, mo + 13] rfl (fun _ => rfl) (fun _ => rfl) (fun r50 u_ H locs hq50 hP hD hS => ?_)
            have hP : va_P (dC, dI) vwCl (wMo dA mo ft lf hg kk tx pn tk fm tO tl mI mT mS mC mL mB mF mU mX mP mK mD mZ []) H := hP
            have hD : va_D A (wMo dA mo ft lf hg kk tx pn tk fm tO tl mI mT mS mC mL mB mF mU mX mP mK mD mZ []) := hD
            have hq50 : r50 = gS tx mX mI i9 := hq50
            refine lv_bipush (v := iI 46) hx hb dMo_lookNumeral_53 (by decide) ?_
            refine iv_icmp_ne (tgt := 109) hx hb dMo_lookNumeral_55 (by decide) ⟨by omega, by omega⟩ ⟨by decide, by decide⟩ (fun hc55 => ?_) (fun hc55 => ?_)
            · have hR9 := nmz_e hJ (show i9 ≤ e0 by omega) (by omega)
              refine lv_iload_n hx hb dMo_lookNumeral_109 rfl (lv_at hl 4 rfl) ?_
              refine lv_iload_n hx hb dMo_lookNumeral_110 rfl (lv_at hl 3 rfl) ?_
              refine iv_icmp_ne (tgt := 139) hx hb dMo_lookNumeral_111 (by decide) ⟨by omega, by omega⟩ ⟨by omega, by omega⟩ (fun hc111 => ?_) (fun hc111 => ?_)
              · refine lv_iload hx hb dMo_lookNumeral_139 (lv_at hl 0 rfl) ?_
                refine iv_if_le (tgt := 157) hx hb dMo_lookNumeral_141 (by decide) ⟨by omega, by omega⟩ (fun hc141 => ?_) (fun hc141 => ?_)
                · refine lv_aload_n hx hb dMo_lookNumeral_157 rfl (lv_at hl 2 rfl) ?_
                  refine lv_iconst (v := iI 5) hx hb dMo_lookNumeral_158 rfl ?_
                  refine va_put (D := (dC, dI)) (ci := 7) (v := .int (iI 5)) (ty := .int) (C := "MacroReckonerModel") (T := TMo) (N := 23) hx hb hts inMo tyMo tyMo_ok nmMo hown hK hP hD hS 0 rfl rfl 16 (by decide) (hts _ wt4_74) (fun _ h9 => h9) rfl (by decide +kernel) rfl rfl (Nat.le_of_ble_eq_true rfl) dMo_lookNumeral_159 (fun H locs hP hD hS => ?_)
                  have hP : va_P (dC, dI) vwCl (wMo dA mo ft lf hg kk tx pn 5 fm tO tl mI mT mS mC mL mB mF mU mX mP mK mD mZ []) H := hP
                  have hD : va_D A (wMo dA mo ft lf hg kk tx pn 5 fm tO tl mI mT mS mC mL mB mF mU mX mP mK mD mZ []) := hD
                  exact rt_v hx hb hr hlocks hK hS dMo_lookNumeral_162 (5, tO, i9) hP hD (show nmR (gS tx mX mI) (np (gS tx mX mI) fm) e0 i9 ∧ ((i9 = e0 ∧ (tx = 0 ∨ ¬ hasD (gS tx mX mI) (np (gS tx mX mI) fm) i9) ∧ 5 = 1 ∧ tO = e0) ∨ (hasD (gS tx mX mI) (np (gS tx mX mI) fm) i9 ∧ (i9 < e0 ∨ tx ≠ 0) ∧ 5 = 2 ∧ tO = i9) ∨ (¬ hasD (gS tx mX mI) (np (gS tx mX mI) fm) i9 ∧ i9 < e0 ∧ 5 = 5 ∧ tO = fm + 1)) from by rw [← hp0.1]; refine ⟨hR9, ?_⟩; first | exact Or.inl ⟨by omega, Or.inl (by omega), rfl, rfl⟩ | exact Or.inl ⟨by omega, Or.inr (hJ.2.2.2.2.2.2.2 (by omega)), rfl, rfl⟩ | exact Or.inr (Or.inl ⟨hJ.2.2.2.2.2.2.1 (by omega), by omega, rfl, rfl⟩) | exact Or.inr (Or.inr ⟨hJ.2.2.2.2.2.2.2 (by omega), by omega, rfl, by omega⟩))
                · refine lv_aload_n hx hb dMo_lookNumeral_144 rfl (lv_at hl 2 rfl) ?_
                  refine lv_iconst (v := iI 2) hx hb dMo_lookNumeral_145 rfl ?_
                  refine va_put (D := (dC, dI)) (ci := 7) (v := .int (iI 2)) (ty := .int) (C := "MacroReckonerModel") (T := TMo) (N := 23) hx hb hts inMo tyMo tyMo_ok nmMo hown hK hP hD hS 0 rfl rfl 16 (by decide) (hts _ wt4_74) (fun _ h9 => h9) rfl (by decide +kernel) rfl rfl (Nat.le_of_ble_eq_true rfl) dMo_lookNumeral_146 (fun H locs hP hD hS => ?_)
                  have hP : va_P (dC, dI) vwCl (wMo dA mo ft lf hg kk tx pn 2 fm tO tl mI mT mS mC mL mB mF mU mX mP mK mD mZ []) H := hP
                  have hD : va_D A (wMo dA mo ft lf hg kk tx pn 2 fm tO tl mI mT mS mC mL mB mF mU mX mP mK mD mZ []) := hD
                  refine lv_aload_n hx hb dMo_lookNumeral_149 rfl (lv_at hl 2 rfl) ?_
                  refine lv_iload_n hx hb dMo_lookNumeral_150 rfl (lv_at hl 4 rfl) ?_
                  refine va_put (D := (dC, dI)) (ci := 7) (v := .int (iI i9)) (ty := .int) (C := "MacroReckonerModel") (T := TMo) (N := 23) hx hb hts inMo tyMo tyMo_ok nmMo hown hK hP hD hS 0 rfl rfl 18 (by decide) (hts _ wt4_76) (fun _ h9 => h9) rfl (by decide +kernel) rfl rfl (Nat.le_of_ble_eq_true rfl) dMo_lookNumeral_151 (fun H locs hP hD hS => ?_)
                  have hP : va_P (dC, dI) vwCl (wMo dA mo ft lf hg kk tx pn 2 fm i9 tl mI mT mS mC mL mB mF mU mX mP mK mD mZ []) H := hP
                  have hD : va_D A (wMo dA mo ft lf hg kk tx pn 2 fm i9 tl mI mT mS mC mL mB mF mU mX mP mK mD mZ []) := hD
                  refine lv_goto (tgt := 162) hx hb dMo_lookNumeral_154 (by decide) ?_
                  exact rt_v hx hb hr hlocks hK hS dMo_lookNumeral_162 (2, i9, i9) hP hD (show nmR (gS tx mX mI) (np (gS tx mX mI) fm) e0 i9 ∧ ((i9 = e0 ∧ (tx = 0 ∨ ¬ hasD (gS tx mX mI) (np (gS tx mX mI) fm) i9) ∧ 2 = 1 ∧ i9 = e0) ∨ (hasD (gS tx mX mI) (np (gS tx mX mI) fm) i9 ∧ (i9 < e0 ∨ tx ≠ 0) ∧ 2 = 2 ∧ i9 = i9) ∨ (¬ hasD (gS tx mX mI) (np (gS tx mX mI) fm) i9 ∧ i9 < e0 ∧ 2 = 5 ∧ i9 = fm + 1)) from by rw [← hp0.1]; refine ⟨hR9, ?_⟩; first | exact Or.inl ⟨by omega, Or.inl (by omega), rfl, rfl⟩ | exact Or.inl ⟨by omega, Or.inr (hJ.2.2.2.2.2.2.2 (by omega)), rfl, rfl⟩ | exact Or.inr (Or.inl ⟨hJ.2.2.2.2.2.2.1 (by omega), by omega, rfl, rfl⟩) | exact Or.inr (Or.inr ⟨hJ.2.2.2.2.2.2.2 (by omega), by omega, rfl, by omega⟩))
              · refine lv_aload_n hx hb dMo_lookNumeral_114 rfl (lv_at hl 2 rfl) ?_
                refine va_get (D := (dC, dI)) (ci := 7) (v := .int (iI tx)) (C := "MacroReckonerModel") (T := TMo) (N := 23) hx hb hts inMo hown hK hP 0 rfl rfl 10 (by decide) (hts _ wt4_68) (fun _ h9 => h9) rfl dMo_lookNumeral_115 ?_
                refine iv_if_eq (tgt := 126) hx hb dMo_lookNumeral_118 (by decide) ⟨by omega, by omega⟩ (fun hc118 => ?_) (fun hc118 => ?_)
                · refine lv_aload_n hx hb dMo_lookNumeral_126 rfl (lv_at hl 2 rfl) ?_
                  refine lv_iconst (v := iI 1) hx hb dMo_lookNumeral_127 rfl ?_
                  refine va_put (D := (dC, dI)) (ci := 7) (v := .int (iI 1)) (ty := .int) (C := "MacroReckonerModel") (T := TMo) (N := 23) hx hb hts inMo tyMo tyMo_ok nmMo hown hK hP hD hS 0 rfl rfl 16 (by decide) (hts _ wt4_74) (fun _ h9 => h9) rfl (by decide +kernel) rfl rfl (Nat.le_of_ble_eq_true rfl) dMo_lookNumeral_128 (fun H locs hP hD hS => ?_)
                  have hP : va_P (dC, dI) vwCl (wMo dA mo ft lf hg kk tx pn 1 fm tO tl mI mT mS mC mL mB mF mU mX mP mK mD mZ []) H := hP
                  have hD : va_D A (wMo dA mo ft lf hg kk tx pn 1 fm tO tl mI mT mS mC mL mB mF mU mX mP mK mD mZ []) := hD
                  refine lv_aload_n hx hb dMo_lookNumeral_131 rfl (lv_at hl 2 rfl) ?_
                  refine lv_iload_n hx hb dMo_lookNumeral_132 rfl (lv_at hl 3 rfl) ?_
                  refine va_put (D := (dC, dI)) (ci := 7) (v := .int (iI e0)) (ty := .int) (C := "MacroReckonerModel") (T := TMo) (N := 23) hx hb hts inMo tyMo tyMo_ok nmMo hown hK hP hD hS 0 rfl rfl 18 (by decide) (hts _ wt4_76) (fun _ h9 => h9) rfl (by decide +kernel) rfl rfl (Nat.le_of_ble_eq_true rfl) dMo_lookNumeral_133 (fun H locs hP hD hS => ?_)
                  have hP : va_P (dC, dI) vwCl (wMo dA mo ft lf hg kk tx pn 1 fm e0 tl mI mT mS mC mL mB mF mU mX mP mK mD mZ []) H := hP
                  have hD : va_D A (wMo dA mo ft lf hg kk tx pn 1 fm e0 tl mI mT mS mC mL mB mF mU mX mP mK mD mZ []) := hD
                  refine lv_goto (tgt := 162) hx hb dMo_lookNumeral_136 (by decide) ?_
                  exact rt_v hx hb hr hlocks hK hS dMo_lookNumeral_162 (1, e0, i9) hP hD (show nmR (gS tx mX mI) (np (gS tx mX mI) fm) e0 i9 ∧ ((i9 = e0 ∧ (tx = 0 ∨ ¬ hasD (gS tx mX mI) (np (gS tx mX mI) fm) i9) ∧ 1 = 1 ∧ e0 = e0) ∨ (hasD (gS tx mX mI) (np (gS tx mX mI) fm) i9 ∧ (i9 < e0 ∨ tx ≠ 0) ∧ 1 = 2 ∧ e0 = i9) ∨ (¬ hasD (gS tx mX mI) (np (gS tx mX mI) fm) i9 ∧ i9 < e0 ∧ 1 = 5 ∧ e0 = fm + 1)) from by rw [← hp0.1]; refine ⟨hR9, ?_⟩; first | exact Or.inl ⟨by omega, Or.inl (by omega), rfl, rfl⟩ | exact Or.inl ⟨by omega, Or.inr (hJ.2.2.2.2.2.2.2 (by omega)), rfl, rfl⟩ | exact Or.inr (Or.inl ⟨hJ.2.2.2.2.2.2.1 (by omega), by omega, rfl, rfl⟩) | exact Or.inr (Or.inr ⟨hJ.2.2.2.2.2.2.2 (by omega), by omega, rfl, by omega⟩))
                · refine lv_iload hx hb dMo_lookNumeral_121 (lv_at hl 0 rfl) ?_
                  refine iv_if_ne (tgt := 139) hx hb dMo_lookNumeral_123 (by decide) ⟨by omega, by omega⟩ (fun hc123 => ?_) (fun hc123 => ?_)
                  · refine lv_iload hx hb dMo_lookNumeral_139 (lv_at hl 0 rfl) ?_
                    refine iv_if_le (tgt := 157) hx hb dMo_lookNumeral_141 (by decide) ⟨by omega, by omega⟩ (fun hc141 => ?_) (fun hc141 => ?_)
                    · refine lv_aload_n hx hb dMo_lookNumeral_157 rfl (lv_at hl 2 rfl) ?_
                      refine lv_iconst (v := iI 5) hx hb dMo_lookNumeral_158 rfl ?_
                      refine va_put (D := (dC, dI)) (ci := 7) (v := .int (iI 5)) (ty := .int) (C := "MacroReckonerModel") (T := TMo) (N := 23) hx hb hts inMo tyMo tyMo_ok nmMo hown hK hP hD hS 0 rfl rfl 16 (by decide) (hts _ wt4_74) (fun _ h9 => h9) rfl (by decide +kernel) rfl rfl (Nat.le_of_ble_eq_true rfl) dMo_lookNumeral_159 (fun H locs hP hD hS => ?_)
                      have hP : va_P (dC, dI) vwCl (wMo dA mo ft lf hg kk tx pn 5 fm tO tl mI mT mS mC mL mB mF mU mX mP mK mD mZ []) H := hP
                      have hD : va_D A (wMo dA mo ft lf hg kk tx pn 5 fm tO tl mI mT mS mC mL mB mF mU mX mP mK mD mZ []) := hD
                      exact rt_v hx hb hr hlocks hK hS dMo_lookNumeral_162 (5, tO, i9) hP hD (show nmR (gS tx mX mI) (np (gS tx mX mI) fm) e0 i9 ∧ ((i9 = e0 ∧ (tx = 0 ∨ ¬ hasD (gS tx mX mI) (np (gS tx mX mI) fm) i9) ∧ 5 = 1 ∧ tO = e0) ∨ (hasD (gS tx mX mI) (np (gS tx mX mI) fm) i9 ∧ (i9 < e0 ∨ tx ≠ 0) ∧ 5 = 2 ∧ tO = i9) ∨ (¬ hasD (gS tx mX mI) (np (gS tx mX mI) fm) i9 ∧ i9 < e0 ∧ 5 = 5 ∧ tO = fm + 1)) from by rw [← hp0.1]; refine ⟨hR9, ?_⟩; first | exact Or.inl ⟨by omega, Or.inl (by omega), rfl, rfl⟩ | exact Or.inl ⟨by omega, Or.inr (hJ.2.2.2.2.2.2.2 (by omega)), rfl, rfl⟩ | exact Or.inr (Or.inl ⟨hJ.2.2.2.2.2.2.1 (by omega), by omega, rfl, rfl⟩) | exact Or.inr (Or.inr ⟨hJ.2.2.2.2.2.2.2 (by omega), by omega, rfl, by omega⟩))
                    · refine lv_aload_n hx hb dMo_lookNumeral_144 rfl (lv_at hl 2 rfl) ?_
                      refine lv_iconst (v := iI 2) hx hb dMo_lookNumeral_145 rfl ?_
                      refine va_put (D := (dC, dI)) (ci := 7) (v := .int (iI 2)) (ty := .int) (C := "MacroReckonerModel") (T := TMo) (N := 23) hx hb hts inMo tyMo tyMo_ok nmMo hown hK hP hD hS 0 rfl rfl 16 (by decide) (hts _ wt4_74) (fun _ h9 => h9) rfl (by decide +kernel) rfl rfl (Nat.le_of_ble_eq_true rfl) dMo_lookNumeral_146 (fun H locs hP hD hS => ?_)
                      have hP : va_P (dC, dI) vwCl (wMo dA mo ft lf hg kk tx pn 2 fm tO tl mI mT mS mC mL mB mF mU mX mP mK mD mZ []) H := hP
                      have hD : va_D A (wMo dA mo ft lf hg kk tx pn 2 fm tO tl mI mT mS mC mL mB mF mU mX mP mK mD mZ []) := hD
                      refine lv_aload_n hx hb dMo_lookNumeral_149 rfl (lv_at hl 2 rfl) ?_
                      refine lv_iload_n hx hb dMo_lookNumeral_150 rfl (lv_at hl 4 rfl) ?_
                      refine va_put (D := (dC, dI)) (ci := 7) (v := .int (iI i9)) (ty := .int) (C := "MacroReckonerModel") (T := TMo) (N := 23) hx hb hts inMo tyMo tyMo_ok nmMo hown hK hP hD hS 0 rfl rfl 18 (by decide) (hts _ wt4_76) (fun _ h9 => h9) rfl (by decide +kernel) rfl rfl (Nat.le_of_ble_eq_true rfl) dMo_lookNumeral_151 (fun H locs hP hD hS => ?_)
                      have hP : va_P (dC, dI) vwCl (wMo dA mo ft lf hg kk tx pn 2 fm i9 tl mI mT mS mC mL mB mF mU mX mP mK mD mZ []) H := hP
                      have hD : va_D A (wMo dA mo ft lf hg kk tx pn 2 fm i9 tl mI mT mS mC mL mB mF mU mX mP mK mD mZ []) := hD
                      refine lv_goto (tgt := 162) hx hb dMo_lookNumeral_154 (by decide) ?_
                      exact rt_v hx hb hr hlocks hK hS dMo_lookNumeral_162 (2, i9, i9) hP hD (show nmR (gS tx mX mI) (np (gS tx mX mI) fm) e0 i9 ∧ ((i9 = e0 ∧ (tx = 0 ∨ ¬ hasD (gS tx mX mI) (np (gS tx mX mI) fm) i9) ∧ 2 = 1 ∧ i9 = e0) ∨ (hasD (gS tx mX mI) (np (gS tx mX mI) fm) i9 ∧ (i9 < e0 ∨ tx ≠ 0) ∧ 2 = 2 ∧ i9 = i9) ∨ (¬ hasD (gS tx mX mI) (np (gS tx mX mI) fm) i9 ∧ i9 < e0 ∧ 2 = 5 ∧ i9 = fm + 1)) from by rw [← hp0.1]; refine ⟨hR9, ?_⟩; first | exact Or.inl ⟨by omega, Or.inl (by omega), rfl, rfl⟩ | exact Or.inl ⟨by omega, Or.inr (hJ.2.2.2.2.2.2.2 (by omega)), rfl, rfl⟩ | exact Or.inr (Or.inl ⟨hJ.2.2.2.2.2.2.1 (by omega), by omega, rfl, rfl⟩) | exact Or.inr (Or.inr ⟨hJ.2.2.2.2.2.2.2 (by omega), by omega, rfl, by omega⟩))
                  · refine lv_aload_n hx hb dMo_lookNumeral_126 rfl (lv_at hl 2 rfl) ?_
                    refine lv_iconst (v := iI 1) hx hb dMo_lookNumeral_127 rfl ?_
                    refine va_put (D := (dC, dI)) (ci := 7) (v := .int (iI 1)) (ty := .int) (C := "MacroReckonerModel") (T := TMo) (N := 23) hx hb hts inMo tyMo tyMo_ok nmMo hown hK hP hD hS 0 rfl rfl 16 (by decide) (hts _ wt4_74) (fun _ h9 => h9) rfl (by decide +kernel) rfl rfl (Nat.le_of_ble_eq_true rfl) dMo_lookNumeral_128 (fun H locs hP hD hS => ?_)
                    have hP : va_P (dC, dI) vwCl (wMo dA mo ft lf hg kk tx pn 1 fm tO tl mI mT mS mC mL mB mF mU mX mP mK mD mZ []) H := hP
                    have hD : va_D A (wMo dA mo ft lf hg kk tx pn 1 fm tO tl mI mT mS mC mL mB mF mU mX mP mK mD mZ []) := hD
                    refine lv_aload_n hx hb dMo_lookNumeral_131 rfl (lv_at hl 2 rfl) ?_
                    refine lv_iload_n hx hb dMo_lookNumeral_132 rfl (lv_at hl 3 rfl) ?_
                    refine va_put (D := (dC, dI)) (ci := 7) (v := .int (iI e0)) (ty := .int) (C := "MacroReckonerModel") (T := TMo) (N := 23) hx hb hts inMo tyMo tyMo_ok nmMo hown hK hP hD hS 0 rfl rfl 18 (by decide) (hts _ wt4_76) (fun _ h9 => h9) rfl (by decide +kernel) rfl rfl (Nat.le_of_ble_eq_true rfl) dMo_lookNumeral_133 (fun H locs hP hD hS => ?_)
                    have hP : va_P (dC, dI) vwCl (wMo dA mo ft lf hg kk tx pn 1 fm e0 tl mI mT mS mC mL mB mF mU mX mP mK mD mZ []) H := hP
                    have hD : va_D A (wMo dA mo ft lf hg kk tx pn 1 fm e0 tl mI mT mS mC mL mB mF mU mX mP mK mD mZ []) := hD
                    refine lv_goto (tgt := 162) hx hb dMo_lookNumeral_136 (by decide) ?_
                    exact rt_v hx hb hr hlocks hK hS dMo_lookNumeral_162 (1, e0, i9) hP hD (show nmR (gS tx mX mI) (np (gS tx mX mI) fm) e0 i9 ∧ ((i9 = e0 ∧ (tx = 0 ∨ ¬ hasD (gS tx mX mI) (np (gS tx mX mI) fm) i9) ∧ 1 = 1 ∧ e0 = e0) ∨ (hasD (gS tx mX mI) (np (gS tx mX mI) fm) i9 ∧ (i9 < e0 ∨ tx ≠ 0) ∧ 1 = 2 ∧ e0 = i9) ∨ (¬ hasD (gS tx mX mI) (np (gS tx mX mI) fm) i9 ∧ i9 < e0 ∧ 1 = 5 ∧ e0 = fm + 1)) from by rw [← hp0.1]; refine ⟨hR9, ?_⟩; first | exact Or.inl ⟨by omega, Or.inl (by omega), rfl, rfl⟩ | exact Or.inl ⟨by omega, Or.inr (hJ.2.2.2.2.2.2.2 (by omega)), rfl, rfl⟩ | exact Or.inr (Or.inl ⟨hJ.2.2.2.2.2.2.1 (by omega), by omega, rfl, rfl⟩) | exact Or.inr (Or.inr ⟨hJ.2.2.2.2.2.2.2 (by omega), by omega, rfl, by omega⟩))
            · refine lv_iload_n hx hb dMo_lookNumeral_58 rfl (lv_at hl 1 rfl) ?_
              refine iv_if_ne (tgt := 109) hx hb dMo_lookNumeral_59 (by decide) ⟨by omega, by omega⟩ (fun hc59 => ?_) (fun hc59 => ?_)
              · have hR9 := nmz_e hJ (show i9 ≤ e0 by omega) (by omega)
                refine lv_iload_n hx hb dMo_lookNumeral_109 rfl (lv_at hl 4 rfl) ?_
                refine lv_iload_n hx hb dMo_lookNumeral_110 rfl (lv_at hl 3 rfl) ?_
                refine iv_icmp_ne (tgt := 139) hx hb dMo_lookNumeral_111 (by decide) ⟨by omega, by omega⟩ ⟨by omega, by omega⟩ (fun hc111 => ?_) (fun hc111 => ?_)
                · refine lv_iload hx hb dMo_lookNumeral_139 (lv_at hl 0 rfl) ?_
                  refine iv_if_le (tgt := 157) hx hb dMo_lookNumeral_141 (by decide) ⟨by omega, by omega⟩ (fun hc141 => ?_) (fun hc141 => ?_)
                  · refine lv_aload_n hx hb dMo_lookNumeral_157 rfl (lv_at hl 2 rfl) ?_
                    refine lv_iconst (v := iI 5) hx hb dMo_lookNumeral_158 rfl ?_
                    refine va_put (D := (dC, dI)) (ci := 7) (v := .int (iI 5)) (ty := .int) (C := "MacroReckonerModel") (T := TMo) (N := 23) hx hb hts inMo tyMo tyMo_ok nmMo hown hK hP hD hS 0 rfl rfl 16 (by decide) (hts _ wt4_74) (fun _ h9 => h9) rfl (by decide +kernel) rfl rfl (Nat.le_of_ble_eq_true rfl) dMo_lookNumeral_159 (fun H locs hP hD hS => ?_)
                    have hP : va_P (dC, dI) vwCl (wMo dA mo ft lf hg kk tx pn 5 fm tO tl mI mT mS mC mL mB mF mU mX mP mK mD mZ []) H := hP
                    have hD : va_D A (wMo dA mo ft lf hg kk tx pn 5 fm tO tl mI mT mS mC mL mB mF mU mX mP mK mD mZ []) := hD
                    exact rt_v hx hb hr hlocks hK hS dMo_lookNumeral_162 (5, tO, i9) hP hD (show nmR (gS tx mX mI) (np (gS tx mX mI) fm) e0 i9 ∧ ((i9 = e0 ∧ (tx = 0 ∨ ¬ hasD (gS tx mX mI) (np (gS tx mX mI) fm) i9) ∧ 5 = 1 ∧ tO = e0) ∨ (hasD (gS tx mX mI) (np (gS tx mX mI) fm) i9 ∧ (i9 < e0 ∨ tx ≠ 0) ∧ 5 = 2 ∧ tO = i9) ∨ (¬ hasD (gS tx mX mI) (np (gS tx mX mI) fm) i9 ∧ i9 < e0 ∧ 5 = 5 ∧ tO = fm + 1)) from by rw [← hp0.1]; refine ⟨hR9, ?_⟩; first | exact Or.inl ⟨by omega, Or.inl (by omega), rfl, rfl⟩ | exact Or.inl ⟨by omega, Or.inr (hJ.2.2.2.2.2.2.2 (by omega)), rfl, rfl⟩ | exact Or.inr (Or.inl ⟨hJ.2.2.2.2.2.2.1 (by omega), by omega, rfl, rfl⟩) | exact Or.inr (Or.inr ⟨hJ.2.2.2.2.2.2.2 (by omega), by omega, rfl, by omega⟩))
                  · refine lv_aload_n hx hb dMo_lookNumeral_144 rfl (lv_at hl 2 rfl) ?_
                    refine lv_iconst (v := iI 2) hx hb dMo_lookNumeral_145 rfl ?_
                    refine va_put (D := (dC, dI)) (ci := 7) (v := .int (iI 2)) (ty := .int) (C := "MacroReckonerModel") (T := TMo) (N := 23) hx hb hts inMo tyMo tyMo_ok nmMo hown hK hP hD hS 0 rfl rfl 16 (by decide) (hts _ wt4_74) (fun _ h9 => h9) rfl (by decide +kernel) rfl rfl (Nat.le_of_ble_eq_true rfl) dMo_lookNumeral_146 (fun H locs hP hD hS => ?_)
                    have hP : va_P (dC, dI) vwCl (wMo dA mo ft lf hg kk tx pn 2 fm tO tl mI mT mS mC mL mB mF mU mX mP mK mD mZ []) H := hP
                    have hD : va_D A (wMo dA mo ft lf hg kk tx pn 2 fm tO tl mI mT mS mC mL mB mF mU mX mP mK mD mZ []) := hD
                    refine lv_aload_n hx hb dMo_lookNumeral_149 rfl (lv_at hl 2 rfl) ?_
                    refine lv_iload_n hx hb dMo_lookNumeral_150 rfl (lv_at hl 4 rfl) ?_
                    refine va_put (D := (dC, dI)) (ci := 7) (v := .int (iI i9)) (ty := .int) (C := "MacroReckonerModel") (T := TMo) (N := 23) hx hb hts inMo tyMo tyMo_ok nmMo hown hK hP hD hS 0 rfl rfl 18 (by decide) (hts _ wt4_76) (fun _ h9 => h9) rfl (by decide +kernel) rfl rfl (Nat.le_of_ble_eq_true rfl) dMo_lookNumeral_151 (fun H locs hP hD hS => ?_)
                    have hP : va_P (dC, dI) vwCl (wMo dA mo ft lf hg kk tx pn 2 fm i9 tl mI mT mS mC mL mB mF mU mX mP mK mD mZ []) H := hP
                    have hD : va_D A (wMo dA mo ft lf hg kk tx pn 2 fm i9 tl mI mT mS mC mL mB mF mU mX mP mK mD mZ []) := hD
                    refine lv_goto (tgt := 162) hx hb dMo_lookNumeral_154 (by decide) ?_
                    exact rt_v hx hb hr hlocks hK hS dMo_lookNumeral_162 (2, i9, i9) hP hD (show nmR (gS tx mX mI) (np (gS tx mX mI) fm) e0 i9 ∧ ((i9 = e0 ∧ (tx = 0 ∨ ¬ hasD (gS tx mX mI) (np (gS tx mX mI) fm) i9) ∧ 2 = 1 ∧ i9 = e0) ∨ (hasD (gS tx mX mI) (np (gS tx mX mI) fm) i9 ∧ (i9 < e0 ∨ tx ≠ 0) ∧ 2 = 2 ∧ i9 = i9) ∨ (¬ hasD (gS tx mX mI) (np (gS tx mX mI) fm) i9 ∧ i9 < e0 ∧ 2 = 5 ∧ i9 = fm + 1)) from by rw [← hp0.1]; refine ⟨hR9, ?_⟩; first | exact Or.inl ⟨by omega, Or.inl (by omega), rfl, rfl⟩ | exact Or.inl ⟨by omega, Or.inr (hJ.2.2.2.2.2.2.2 (by omega)), rfl, rfl⟩ | exact Or.inr (Or.inl ⟨hJ.2.2.2.2.2.2.1 (by omega), by omega, rfl, rfl⟩) | exact Or.inr (Or.inr ⟨hJ.2.2.2.2.2.2.2 (by omega), by omega, rfl, by omega⟩))
                · refine lv_aload_n hx hb dMo_lookNumeral_114 rfl (lv_at hl 2 rfl) ?_
                  refine va_get (D := (dC, dI)) (ci := 7) (v := .int (iI tx)) (C := "MacroReckonerModel") (T := TMo) (N := 23) hx hb hts inMo hown hK hP 0 rfl rfl 10 (by decide) (hts _ wt4_68) (fun _ h9 => h9) rfl dMo_lookNumeral_115 ?_
                  refine iv_if_eq (tgt := 126) hx hb dMo_lookNumeral_118 (by decide) ⟨by omega, by omega⟩ (fun hc118 => ?_) (fun hc118 => ?_)
                  · refine lv_aload_n hx hb dMo_lookNumeral_126 rfl (lv_at hl 2 rfl) ?_
                    refine lv_iconst (v := iI 1) hx hb dMo_lookNumeral_127 rfl ?_
                    refine va_put (D := (dC, dI)) (ci := 7) (v := .int (iI 1)) (ty := .int) (C := "MacroReckonerModel") (T := TMo) (N := 23) hx hb hts inMo tyMo tyMo_ok nmMo hown hK hP hD hS 0 rfl rfl 16 (by decide) (hts _ wt4_74) (fun _ h9 => h9) rfl (by decide +kernel) rfl rfl (Nat.le_of_ble_eq_true rfl) dMo_lookNumeral_128 (fun H locs hP hD hS => ?_)
                    have hP : va_P (dC, dI) vwCl (wMo dA mo ft lf hg kk tx pn 1 fm tO tl mI mT mS mC mL mB mF mU mX mP mK mD mZ []) H := hP
                    have hD : va_D A (wMo dA mo ft lf hg kk tx pn 1 fm tO tl mI mT mS mC mL mB mF mU mX mP mK mD mZ []) := hD
                    refine lv_aload_n hx hb dMo_lookNumeral_131 rfl (lv_at hl 2 rfl) ?_
                    refine lv_iload_n hx hb dMo_lookNumeral_132 rfl (lv_at hl 3 rfl) ?_
                    refine va_put (D := (dC, dI)) (ci := 7) (v := .int (iI e0)) (ty := .int) (C := "MacroReckonerModel") (T := TMo) (N := 23) hx hb hts inMo tyMo tyMo_ok nmMo hown hK hP hD hS 0 rfl rfl 18 (by decide) (hts _ wt4_76) (fun _ h9 => h9) rfl (by decide +kernel) rfl rfl (Nat.le_of_ble_eq_true rfl) dMo_lookNumeral_133 (fun H locs hP hD hS => ?_)
                    have hP : va_P (dC, dI) vwCl (wMo dA mo ft lf hg kk tx pn 1 fm e0 tl mI mT mS mC mL mB mF mU mX mP mK mD mZ []) H := hP
                    have hD : va_D A (wMo dA mo ft lf hg kk tx pn 1 fm e0 tl mI mT mS mC mL mB mF mU mX mP mK mD mZ []) := hD
                    refine lv_goto (tgt := 162) hx hb dMo_lookNumeral_136 (by decide) ?_
                    exact rt_v hx hb hr hlocks hK hS dMo_lookNumeral_162 (1, e0, i9) hP hD (show nmR (gS tx mX mI) (np (gS tx mX mI) fm) e0 i9 ∧ ((i9 = e0 ∧ (tx = 0 ∨ ¬ hasD (gS tx mX mI) (np (gS tx mX mI) fm) i9) ∧ 1 = 1 ∧ e0 = e0) ∨ (hasD (gS tx mX mI) (np (gS tx mX mI) fm) i9 ∧ (i9 < e0 ∨ tx ≠ 0) ∧ 1 = 2 ∧ e0 = i9) ∨ (¬ hasD (gS tx mX mI) (np (gS tx mX mI) fm) i9 ∧ i9 < e0 ∧ 1 = 5 ∧ e0 = fm + 1)) from by rw [← hp0.1]; refine ⟨hR9, ?_⟩; first | exact Or.inl ⟨by omega, Or.inl (by omega), rfl, rfl⟩ | exact Or.inl ⟨by omega, Or.inr (hJ.2.2.2.2.2.2.2 (by omega)), rfl, rfl⟩ | exact Or.inr (Or.inl ⟨hJ.2.2.2.2.2.2.1 (by omega), by omega, rfl, rfl⟩) | exact Or.inr (Or.inr ⟨hJ.2.2.2.2.2.2.2 (by omega), by omega, rfl, by omega⟩))
                  · refine lv_iload hx hb dMo_lookNumeral_121 (lv_at hl 0 rfl) ?_
                    refine iv_if_ne (tgt := 139) hx hb dMo_lookNumeral_123 (by decide) ⟨by omega, by omega⟩ (fun hc123 => ?_) (fun hc123 => ?_)
                    · refine lv_iload hx hb dMo_lookNumeral_139 (lv_at hl 0 rfl) ?_
                      refine iv_if_le (tgt := 157) hx hb dMo_lookNumeral_141 (by decide) ⟨by omega, by omega⟩ (fun hc141 => ?_) (fun hc141 => ?_)
                      · refine lv_aload_n hx hb dMo_lookNumeral_157 rfl (lv_at hl 2 rfl) ?_
                        refine lv_iconst (v := iI 5) hx hb dMo_lookNumeral_158 rfl ?_
                        refine va_put (D := (dC, dI)) (ci := 7) (v := .int (iI 5)) (ty := .int) (C := "MacroReckonerModel") (T := TMo) (N := 23) hx hb hts inMo tyMo tyMo_ok nmMo hown hK hP hD hS 0 rfl rfl 16 (by decide) (hts _ wt4_74) (fun _ h9 => h9) rfl (by decide +kernel) rfl rfl (Nat.le_of_ble_eq_true rfl) dMo_lookNumeral_159 (fun H locs hP hD hS => ?_)
                        have hP : va_P (dC, dI) vwCl (wMo dA mo ft lf hg kk tx pn 5 fm tO tl mI mT mS mC mL mB mF mU mX mP mK mD mZ []) H := hP
                        have hD : va_D A (wMo dA mo ft lf hg kk tx pn 5 fm tO tl mI mT mS mC mL mB mF mU mX mP mK mD mZ []) := hD
                        exact rt_v hx hb hr hlocks hK hS dMo_lookNumeral_162 (5, tO, i9) hP hD (show nmR (gS tx mX mI) (np (gS tx mX mI) fm) e0 i9 ∧ ((i9 = e0 ∧ (tx = 0 ∨ ¬ hasD (gS tx mX mI) (np (gS tx mX mI) fm) i9) ∧ 5 = 1 ∧ tO = e0) ∨ (hasD (gS tx mX mI) (np (gS tx mX mI) fm) i9 ∧ (i9 < e0 ∨ tx ≠ 0) ∧ 5 = 2 ∧ tO = i9) ∨ (¬ hasD (gS tx mX mI) (np (gS tx mX mI) fm) i9 ∧ i9 < e0 ∧ 5 = 5 ∧ tO = fm + 1)) from by rw [← hp0.1]; refine ⟨hR9, ?_⟩; first | exact Or.inl ⟨by omega, Or.inl (by omega), rfl, rfl⟩ | exact Or.inl ⟨by omega, Or.inr (hJ.2.2.2.2.2.2.2 (by omega)), rfl, rfl⟩ | exact Or.inr (Or.inl ⟨hJ.2.2.2.2.2.2.1 (by omega), by omega, rfl, rfl⟩) | exact Or.inr (Or.inr ⟨hJ.2.2.2.2.2.2.2 (by omega), by omega, rfl, by omega⟩))
                      · refine lv_aload_n hx hb dMo_lookNumeral_144 rfl (lv_at hl 2 rfl) ?_
                        refine lv_iconst (v := iI 2) hx hb dMo_lookNumeral_145 rfl ?_
                        refine va_put (D := (dC, dI)) (ci := 7) (v := .int (iI 2)) (ty := .int) (C := "MacroReckonerModel") (T := TMo) (N := 23) hx hb hts inMo tyMo tyMo_ok nmMo hown hK hP hD hS 0 rfl rfl 16 (by decide) (hts _ wt4_74) (fun _ h9 => h9) rfl (by decide +kernel) rfl rfl (Nat.le_of_ble_eq_true rfl) dMo_lookNumeral_146 (fun H locs hP hD hS => ?_)
                        have hP : va_P (dC, dI) vwCl (wMo dA mo ft lf hg kk tx pn 2 fm tO tl mI mT mS mC mL mB mF mU mX mP mK mD mZ []) H := hP
                        have hD : va_D A (wMo dA mo ft lf hg kk tx pn 2 fm tO tl mI mT mS mC mL mB mF mU mX mP mK mD mZ []) := hD
                        refine lv_aload_n hx hb dMo_lookNumeral_149 rfl (lv_at hl 2 rfl) ?_
                        refine lv_iload_n hx hb dMo_lookNumeral_150 rfl (lv_at hl 4 rfl) ?_
                        refine va_put (D := (dC, dI)) (ci := 7) (v := .int (iI i9)) (ty := .int) (C := "MacroReckonerModel") (T := TMo) (N := 23) hx hb hts inMo tyMo tyMo_ok nmMo hown hK hP hD hS 0 rfl rfl 18 (by decide) (hts _ wt4_76) (fun _ h9 => h9) rfl (by decide +kernel) rfl rfl (Nat.le_of_ble_eq_true rfl) dMo_lookNumeral_151 (fun H locs hP hD hS => ?_)
                        have hP : va_P (dC, dI) vwCl (wMo dA mo ft lf hg kk tx pn 2 fm i9 tl mI mT mS mC mL mB mF mU mX mP mK mD mZ []) H := hP
                        have hD : va_D A (wMo dA mo ft lf hg kk tx pn 2 fm i9 tl mI mT mS mC mL mB mF mU mX mP mK mD mZ []) := hD
                        refine lv_goto (tgt := 162) hx hb dMo_lookNumeral_154 (by decide) ?_
                        exact rt_v hx hb hr hlocks hK hS dMo_lookNumeral_162 (2, i9, i9) hP hD (show nmR (gS tx mX mI) (np (gS tx mX mI) fm) e0 i9 ∧ ((i9 = e0 ∧ (tx = 0 ∨ ¬ hasD (gS tx mX mI) (np (gS tx mX mI) fm) i9) ∧ 2 = 1 ∧ i9 = e0) ∨ (hasD (gS tx mX mI) (np (gS tx mX mI) fm) i9 ∧ (i9 < e0 ∨ tx ≠ 0) ∧ 2 = 2 ∧ i9 = i9) ∨ (¬ hasD (gS tx mX mI) (np (gS tx mX mI) fm) i9 ∧ i9 < e0 ∧ 2 = 5 ∧ i9 = fm + 1)) from by rw [← hp0.1]; refine ⟨hR9, ?_⟩; first | exact Or.inl ⟨by omega, Or.inl (by omega), rfl, rfl⟩ | exact Or.inl ⟨by omega, Or.inr (hJ.2.2.2.2.2.2.2 (by omega)), rfl, rfl⟩ | exact Or.inr (Or.inl ⟨hJ.2.2.2.2.2.2.1 (by omega), by omega, rfl, rfl⟩) | exact Or.inr (Or.inr ⟨hJ.2.2.2.2.2.2.2 (by omega), by omega, rfl, by omega⟩))
                    · refine lv_aload_n hx hb dMo_lookNumeral_126 rfl (lv_at hl 2 rfl) ?_
                      refine lv_iconst (v := iI 1) hx hb dMo_lookNumeral_127 rfl ?_
                      refine va_put (D := (dC, dI)) (ci := 7) (v := .int (iI 1)) (ty := .int) (C := "MacroReckonerModel") (T := TMo) (N := 23) hx hb hts inMo tyMo tyMo_ok nmMo hown hK hP hD hS 0 rfl rfl 16 (by decide) (hts _ wt4_74) (fun _ h9 => h9) rfl (by decide +kernel) rfl rfl (Nat.le_of_ble_eq_true rfl) dMo_lookNumeral_128 (fun H locs hP hD hS => ?_)
                      have hP : va_P (dC, dI) vwCl (wMo dA mo ft lf hg kk tx pn 1 fm tO tl mI mT mS mC mL mB mF mU mX mP mK mD mZ []) H := hP
                      have hD : va_D A (wMo dA mo ft lf hg kk tx pn 1 fm tO tl mI mT mS mC mL mB mF mU mX mP mK mD mZ []) := hD
                      refine lv_aload_n hx hb dMo_lookNumeral_131 rfl (lv_at hl 2 rfl) ?_
                      refine lv_iload_n hx hb dMo_lookNumeral_132 rfl (lv_at hl 3 rfl) ?_
                      refine va_put (D := (dC, dI)) (ci := 7) (v := .int (iI e0)) (ty := .int) (C := "MacroReckonerModel") (T := TMo) (N := 23) hx hb hts inMo tyMo tyMo_ok nmMo hown hK hP hD hS 0 rfl rfl 18 (by decide) (hts _ wt4_76) (fun _ h9 => h9) rfl (by decide +kernel) rfl rfl (Nat.le_of_ble_eq_true rfl) dMo_lookNumeral_133 (fun H locs hP hD hS => ?_)
                      have hP : va_P (dC, dI) vwCl (wMo dA mo ft lf hg kk tx pn 1 fm e0 tl mI mT mS mC mL mB mF mU mX mP mK mD mZ []) H := hP
                      have hD : va_D A (wMo dA mo ft lf hg kk tx pn 1 fm e0 tl mI mT mS mC mL mB mF mU mX mP mK mD mZ []) := hD
                      refine lv_goto (tgt := 162) hx hb dMo_lookNumeral_136 (by decide) ?_
                      exact rt_v hx hb hr hlocks hK hS dMo_lookNumeral_162 (1, e0, i9) hP hD (show nmR (gS tx mX mI) (np (gS tx mX mI) fm) e0 i9 ∧ ((i9 = e0 ∧ (tx = 0 ∨ ¬ hasD (gS tx mX mI) (np (gS tx mX mI) fm) i9) ∧ 1 = 1 ∧ e0 = e0) ∨ (hasD (gS tx mX mI) (np (gS tx mX mI) fm) i9 ∧ (i9 < e0 ∨ tx ≠ 0) ∧ 1 = 2 ∧ e0 = i9) ∨ (¬ hasD (gS tx mX mI) (np (gS tx mX mI) fm) i9 ∧ i9 < e0 ∧ 1 = 5 ∧ e0 = fm + 1)) from by rw [← hp0.1]; refine ⟨hR9, ?_⟩; first | exact Or.inl ⟨by omega, Or.inl (by omega), rfl, rfl⟩ | exact Or.inl ⟨by omega, Or.inr (hJ.2.2.2.2.2.2.2 (by omega)), rfl, rfl⟩ | exact Or.inr (Or.inl ⟨hJ.2.2.2.2.2.2.1 (by omega), by omega, rfl, rfl⟩) | exact Or.inr (Or.inr ⟨hJ.2.2.2.2.2.2.2 (by omega), by omega, rfl, by omega⟩))
              · refine lv_iload_n hx hb dMo_lookNumeral_62 rfl (lv_at hl 1 rfl) ?_
                refine iv_if_ne (tgt := 76) hx hb dMo_lookNumeral_63 (by decide) ⟨by omega, by omega⟩ (fun hc63 => absurd hc63 (by omega)) (fun hc63 => ?_)
                refine lv_aload_n hx hb dMo_lookNumeral_66 rfl (lv_at hl 2 rfl) ?_
                refine lv_iload_n hx hb dMo_lookNumeral_67 rfl (lv_at hl 4 rfl) ?_
                refine cv_i (va_runV (C := "MacroReckonerModel") (As := [.int (iI i9)]) (rest := []) ⟨hx, hb, hml, hown, hts⟩ (cMo_at l dC dI dA mo ft lf hg kk tx pn tk fm tO tl mI mT mS mC mL mB mF mU mX mP mK mD mZ i9 (by omega) H.size) (cwV 1 hts (gdV wt4_149 wt4_151 ws3_9 wt1_8 wt4_152) rfl rfl rfl ⟨rfl, by decide, by decide, by decide +kernel⟩ ⟨by decide, by decide⟩) (preV (q := ("MacroReckonerModel", TMo, 23)) hK hP hD hS hA XN_ok trivial [0, 1, 2, 3, 4, 5, 6, 7, 8, 9, 10, 11, 12, 13] rfl rfl 0 rfl rfl) rfl rfl hl.1 rfl (lv_room (Nat.le_of_ble_eq_true rfl)) dMo_lookNumeral_68 ⟨Nat.zero_le _, Nat.zero_le _⟩) hP hD hS hA [0, 1, 2, 3, 4, 5, 6, 7, 8, 9, 10, 11, 12, 13] [] rfl (fun v_ => wMo dA mo ft lf hg kk tx pn tk fm tO tl mI mT mS mC mL mB mF mU mX mP mK mD mZ []) (fun _ => rfl) ([] : va_W) rfl (fun _ => rfl) [mo, mo + 1, mo + 2, mo + 3, mo + 4, mo + 5, mo + 6, mo + 7, mo + 8, mo + 9, mo + 10, mo + 11, mo + 12, mo + 13] rfl (fun _ => rfl) (fun _ => rfl) (fun r68 u_ H locs hq68 hP hD hS => ?_)
                have hP : va_P (dC, dI) vwCl (wMo dA mo ft lf hg kk tx pn tk fm tO tl mI mT mS mC mL mB mF mU mX mP mK mD mZ []) H := hP
                have hD : va_D A (wMo dA mo ft lf hg kk tx pn tk fm tO tl mI mT mS mC mL mB mF mU mX mP mK mD mZ []) := hD
                have hq68 : r68 = gS tx mX mI i9 := hq68
                refine lv_bipush (v := iI 46) hx hb dMo_lookNumeral_71 (by decide) ?_
                refine iv_icmp_ne (tgt := 80) hx hb dMo_lookNumeral_73 (by decide) ⟨by omega, by omega⟩ ⟨by decide, by decide⟩ (fun hc73 => absurd hc73 (by omega)) (fun hc73 => ?_)
                refine lv_iconst (v := iI 1) hx hb dMo_lookNumeral_76 rfl ?_
                refine lv_goto (tgt := 81) hx hb dMo_lookNumeral_77 (by decide) ?_
                refine lv_istore_n (lv' := [(3, .int (iI 1)), (4, .int (iI dg9)), (0, .ref mo), (1, .int (iI e0)), (2, .int (iI i9))]) hx hb dMo_lookNumeral_81 rfl hl (by decide) rfl (fun ls hl => ?_)
                refine lv_aload_n hx hb dMo_lookNumeral_82 rfl (lv_at hl 2 rfl) ?_
                refine lv_iload_n hx hb dMo_lookNumeral_83 rfl (lv_at hl 4 rfl) ?_
                refine cv_i (va_runV (C := "MacroReckonerModel") (As := [.int (iI i9)]) (rest := []) ⟨hx, hb, hml, hown, hts⟩ (cMo_at l dC dI dA mo ft lf hg kk tx pn tk fm tO tl mI mT mS mC mL mB mF mU mX mP mK mD mZ i9 (by omega) H.size) (cwV 1 hts (gdV wt4_149 wt4_151 ws3_9 wt1_8 wt4_152) rfl rfl rfl ⟨rfl, by decide, by decide, by decide +kernel⟩ ⟨by decide, by decide⟩) (preV (q := ("MacroReckonerModel", TMo, 23)) hK hP hD hS hA XN_ok trivial [0, 1, 2, 3, 4, 5, 6, 7, 8, 9, 10, 11, 12, 13] rfl rfl 0 rfl rfl) rfl rfl hl.1 rfl (lv_room (Nat.le_of_ble_eq_true rfl)) dMo_lookNumeral_84 ⟨Nat.zero_le _, Nat.zero_le _⟩) hP hD hS hA [0, 1, 2, 3, 4, 5, 6, 7, 8, 9, 10, 11, 12, 13] [] rfl (fun v_ => wMo dA mo ft lf hg kk tx pn tk fm tO tl mI mT mS mC mL mB mF mU mX mP mK mD mZ []) (fun _ => rfl) ([] : va_W) rfl (fun _ => rfl) [mo, mo + 1, mo + 2, mo + 3, mo + 4, mo + 5, mo + 6, mo + 7, mo + 8, mo + 9, mo + 10, mo + 11, mo + 12, mo + 13] rfl (fun _ => rfl) (fun _ => rfl) (fun r84 u_ H locs hq84 hP hD hS => ?_)
                have hP : va_P (dC, dI) vwCl (wMo dA mo ft lf hg kk tx pn tk fm tO tl mI mT mS mC mL mB mF mU mX mP mK mD mZ []) H := hP
                have hD : va_D A (wMo dA mo ft lf hg kk tx pn tk fm tO tl mI mT mS mC mL mB mF mU mX mP mK mD mZ []) := hD
                have hq84 : r84 = gS tx mX mI i9 := hq84
                refine lv_bipush (v := iI 46) hx hb dMo_lookNumeral_87 (by decide) ?_
                refine iv_icmp_ne (tgt := 97) hx hb dMo_lookNumeral_89 (by decide) ⟨by omega, by omega⟩ ⟨by decide, by decide⟩ (fun hc89 => absurd hc89 (by omega)) (fun hc89 => ?_)
                refine lv_iload hx hb dMo_lookNumeral_92 (lv_at hl 1 rfl) ?_
                refine lv_goto (tgt := 101) hx hb dMo_lookNumeral_94 (by decide) ?_
                refine lv_istore (lv' := [(4, .int (iI dg9)), (3, .int (iI 1)), (0, .ref mo), (1, .int (iI e0)), (2, .int (iI i9))]) hx hb dMo_lookNumeral_101 hl (by decide) rfl (fun ls hl => ?_)
                refine lv_iinc (k := 4) (lv' := [(2, .int (iI (i9 + 1))), (4, .int (iI dg9)), (3, .int (iI 1)), (0, .ref mo), (1, .int (iI e0))]) (v := iI (i9 + 1)) hx hb dMo_lookNumeral_103 hl rfl (iI_add _ _).symm (by decide) rfl (fun ls hl => ?_)
                refine lv_goto (tgt := 32) hx hb dMo_lookNumeral_106 (by decide) ?_
                exact ih32 (i9 + 1) 1 dg9 H locs ls (by omega) (by first | (have h := nmz_d hJ (show 48 ≤ gS tx mX mI i9 ∧ gS tx mX mI i9 ≤ 57 by omega); (first | rw [show pt = 1 by omega] at h | rw [show pt = 0 by omega] at h); exact h) | (have h := nmz_p hJ (by omega) (by omega); rw [show pt + 1 = 1 by omega] at h; exact h)) (by omega) hP hD hS (lv_sub hl [1, 2, 3, 4, 0] rfl)
    exact L32 _ p0 0 0 H locs ls (by omega) (by exact nmz_0) (Nat.lt_succ_self _) hP hD hS (lv_sub hl [0, 1, 2, 3, 4] rfl)
  refine iv_icmp_ne (tgt := 22) hx hb dMo_lookNumeral_10 (by decide) ⟨by omega, by omega⟩ ⟨by decide, by decide⟩ (fun hc10 => ?_) (fun hc10 => ?_)
  · refine lv_aload_n hx hb dMo_lookNumeral_22 rfl (lv_at hl 0 rfl) ?_
    refine va_get (D := (dC, dI)) (ci := 7) (v := .int (iI fm)) (C := "MacroReckonerModel") (T := TMo) (N := 23) hx hb hts inMo hown hK hP 0 rfl rfl 17 (by decide) (hts _ wt4_75) (fun _ h9 => h9) rfl dMo_lookNumeral_23 ?_
    refine lv_istore_n (lv' := [(2, .int (iI fm)), (0, .ref mo), (1, .int (iI e0))]) hx hb dMo_lookNumeral_26 rfl hl (by decide) rfl (fun ls hl => ?_)
    exact J27 fm H locs ls (by refine ⟨?_, by omega, by omega⟩; unfold np; (first | rw [if_pos (by omega)] | rw [if_neg (by omega)])) hP hD hS (lv_sub hl [1, 2, 0] rfl)
  · refine lv_aload_n hx hb dMo_lookNumeral_13 rfl (lv_at hl 0 rfl) ?_
    refine va_get (D := (dC, dI)) (ci := 7) (v := .int (iI fm)) (C := "MacroReckonerModel") (T := TMo) (N := 23) hx hb hts inMo hown hK hP 0 rfl rfl 17 (by decide) (hts _ wt4_75) (fun _ h9 => h9) rfl dMo_lookNumeral_14 ?_
    refine lv_iconst (v := iI 1) hx hb dMo_lookNumeral_17 rfl ?_
    refine iv_iadd hx hb dMo_lookNumeral_18 ?_
    refine lv_goto (tgt := 26) hx hb dMo_lookNumeral_19 (by decide) ?_
    refine lv_istore_n (lv' := [(2, .int (iI (fm + 1))), (0, .ref mo), (1, .int (iI e0))]) hx hb dMo_lookNumeral_26 rfl hl (by decide) rfl (fun ls hl => ?_)
    exact J27 (fm + 1) H locs ls (by refine ⟨?_, by omega, by omega⟩; unfold np; (first | rw [if_pos (by omega)] | rw [if_neg (by omega)])) hP hD hS (lv_sub hl [1, 2, 0] rfl)

theorem dMo_look_0 : decode prog_9_method_34_code 0 = .ok (.aload_n 0, 1) := by decide +kernel
theorem dMo_look_1 : decode prog_9_method_34_code 1 = .ok (.getfield 120, 3) := by decide +kernel
theorem dMo_look_4 : decode prog_9_method_34_code 4 = .ok (.ifCond .le 17, 3) := by decide +kernel
theorem dMo_look_7 : decode prog_9_method_34_code 7 = .ok (.aload_n 0, 1) := by decide +kernel
theorem dMo_look_8 : decode prog_9_method_34_code 8 = .ok (.getfield 32, 3) := by decide +kernel
theorem dMo_look_11 : decode prog_9_method_34_code 11 = .ok (.aload_n 0, 1) := by decide +kernel
theorem dMo_look_12 : decode prog_9_method_34_code 12 = .ok (.getfield 120, 3) := by decide +kernel
theorem dMo_look_15 : decode prog_9_method_34_code 15 = .ok (.iconst 1, 1) := by decide +kernel
theorem dMo_look_16 : decode prog_9_method_34_code 16 = .ok (.isub, 1) := by decide +kernel
theorem dMo_look_17 : decode prog_9_method_34_code 17 = .ok (.iaload, 1) := by decide +kernel
theorem dMo_look_18 : decode prog_9_method_34_code 18 = .ok (.goto 7, 3) := by decide +kernel
theorem dMo_look_21 : decode prog_9_method_34_code 21 = .ok (.aload_n 0, 1) := by decide +kernel
theorem dMo_look_22 : decode prog_9_method_34_code 22 = .ok (.getfield 123, 3) := by decide +kernel
theorem dMo_look_25 : decode prog_9_method_34_code 25 = .ok (.istore_n 1, 1) := by decide +kernel
theorem dMo_look_26 : decode prog_9_method_34_code 26 = .ok (.aload_n 0, 1) := by decide +kernel
theorem dMo_look_27 : decode prog_9_method_34_code 27 = .ok (.aload_n 0, 1) := by decide +kernel
theorem dMo_look_28 : decode prog_9_method_34_code 28 = .ok (.getfield 120, 3) := by decide +kernel
theorem dMo_look_31 : decode prog_9_method_34_code 31 = .ok (.ifCond .le 17, 3) := by decide +kernel
theorem dMo_look_34 : decode prog_9_method_34_code 34 = .ok (.aload_n 0, 1) := by decide +kernel
theorem dMo_look_35 : decode prog_9_method_34_code 35 = .ok (.getfield 29, 3) := by decide +kernel
theorem dMo_look_38 : decode prog_9_method_34_code 38 = .ok (.aload_n 0, 1) := by decide +kernel
theorem dMo_look_39 : decode prog_9_method_34_code 39 = .ok (.getfield 120, 3) := by decide +kernel
theorem dMo_look_42 : decode prog_9_method_34_code 42 = .ok (.iconst 1, 1) := by decide +kernel
theorem dMo_look_43 : decode prog_9_method_34_code 43 = .ok (.isub, 1) := by decide +kernel
theorem dMo_look_44 : decode prog_9_method_34_code 44 = .ok (.iaload, 1) := by decide +kernel
theorem dMo_look_45 : decode prog_9_method_34_code 45 = .ok (.goto 4, 3) := by decide +kernel
theorem dMo_look_48 : decode prog_9_method_34_code 48 = .ok (.iconst 0, 1) := by decide +kernel
theorem dMo_look_49 : decode prog_9_method_34_code 49 = .ok (.putfield 126, 3) := by decide +kernel
theorem dMo_look_52 : decode prog_9_method_34_code 52 = .ok (.aload_n 0, 1) := by decide +kernel
theorem dMo_look_53 : decode prog_9_method_34_code 53 = .ok (.getfield 126, 3) := by decide +kernel
theorem dMo_look_56 : decode prog_9_method_34_code 56 = .ok (.iload_n 1, 1) := by decide +kernel
theorem dMo_look_57 : decode prog_9_method_34_code 57 = .ok (.if_icmp .ge 29, 3) := by decide +kernel
theorem dMo_look_60 : decode prog_9_method_34_code 60 = .ok (.aload_n 0, 1) := by decide +kernel
theorem dMo_look_61 : decode prog_9_method_34_code 61 = .ok (.aload_n 0, 1) := by decide +kernel
theorem dMo_look_62 : decode prog_9_method_34_code 62 = .ok (.getfield 126, 3) := by decide +kernel
theorem dMo_look_65 : decode prog_9_method_34_code 65 = .ok (.invokevirtual 129, 3) := by decide +kernel
theorem dMo_look_68 : decode prog_9_method_34_code 68 = .ok (.bipush 32, 2) := by decide +kernel
theorem dMo_look_70 : decode prog_9_method_34_code 70 = .ok (.if_icmp .ne 16, 3) := by decide +kernel
theorem dMo_look_73 : decode prog_9_method_34_code 73 = .ok (.aload_n 0, 1) := by decide +kernel
theorem dMo_look_74 : decode prog_9_method_34_code 74 = .ok (.dup, 1) := by decide +kernel
theorem dMo_look_75 : decode prog_9_method_34_code 75 = .ok (.getfield 126, 3) := by decide +kernel
theorem dMo_look_78 : decode prog_9_method_34_code 78 = .ok (.iconst 1, 1) := by decide +kernel
theorem dMo_look_79 : decode prog_9_method_34_code 79 = .ok (.iadd, 1) := by decide +kernel
theorem dMo_look_80 : decode prog_9_method_34_code 80 = .ok (.putfield 126, 3) := by decide +kernel
theorem dMo_look_83 : decode prog_9_method_34_code 83 = .ok (.goto (-31), 3) := by decide +kernel
theorem dMo_look_86 : decode prog_9_method_34_code 86 = .ok (.aload_n 0, 1) := by decide +kernel
theorem dMo_look_87 : decode prog_9_method_34_code 87 = .ok (.aload_n 0, 1) := by decide +kernel
theorem dMo_look_88 : decode prog_9_method_34_code 88 = .ok (.getfield 126, 3) := by decide +kernel
theorem dMo_look_91 : decode prog_9_method_34_code 91 = .ok (.iconst 1, 1) := by decide +kernel
theorem dMo_look_92 : decode prog_9_method_34_code 92 = .ok (.iadd, 1) := by decide +kernel
theorem dMo_look_93 : decode prog_9_method_34_code 93 = .ok (.putfield 132, 3) := by decide +kernel
theorem dMo_look_96 : decode prog_9_method_34_code 96 = .ok (.aload_n 0, 1) := by decide +kernel
theorem dMo_look_97 : decode prog_9_method_34_code 97 = .ok (.getfield 126, 3) := by decide +kernel
theorem dMo_look_100 : decode prog_9_method_34_code 100 = .ok (.iload_n 1, 1) := by decide +kernel
theorem dMo_look_101 : decode prog_9_method_34_code 101 = .ok (.if_icmp .ne 19, 3) := by decide +kernel
theorem dMo_look_104 : decode prog_9_method_34_code 104 = .ok (.aload_n 0, 1) := by decide +kernel
theorem dMo_look_105 : decode prog_9_method_34_code 105 = .ok (.aload_n 0, 1) := by decide +kernel
theorem dMo_look_106 : decode prog_9_method_34_code 106 = .ok (.getfield 126, 3) := by decide +kernel
theorem dMo_look_109 : decode prog_9_method_34_code 109 = .ok (.putfield 132, 3) := by decide +kernel
theorem dMo_look_112 : decode prog_9_method_34_code 112 = .ok (.aload_n 0, 1) := by decide +kernel
theorem dMo_look_113 : decode prog_9_method_34_code 113 = .ok (.iconst 0, 1) := by decide +kernel
theorem dMo_look_114 : decode prog_9_method_34_code 114 = .ok (.putfield 135, 3) := by decide +kernel
theorem dMo_look_117 : decode prog_9_method_34_code 117 = .ok (.goto 137, 3) := by decide +kernel
theorem dMo_look_120 : decode prog_9_method_34_code 120 = .ok (.aload_n 0, 1) := by decide +kernel
theorem dMo_look_121 : decode prog_9_method_34_code 121 = .ok (.aload_n 0, 1) := by decide +kernel
theorem dMo_look_122 : decode prog_9_method_34_code 122 = .ok (.getfield 126, 3) := by decide +kernel
theorem dMo_look_125 : decode prog_9_method_34_code 125 = .ok (.invokevirtual 129, 3) := by decide +kernel
theorem dMo_look_128 : decode prog_9_method_34_code 128 = .ok (.bipush 91, 2) := by decide +kernel
theorem dMo_look_130 : decode prog_9_method_34_code 130 = .ok (.if_icmp .ne 11, 3) := by decide +kernel
theorem dMo_look_133 : decode prog_9_method_34_code 133 = .ok (.aload_n 0, 1) := by decide +kernel
theorem dMo_look_134 : decode prog_9_method_34_code 134 = .ok (.iload_n 1, 1) := by decide +kernel
theorem dMo_look_135 : decode prog_9_method_34_code 135 = .ok (.invokevirtual 138, 3) := by decide +kernel
theorem dMo_look_138 : decode prog_9_method_34_code 138 = .ok (.goto 116, 3) := by decide +kernel
theorem dMo_look_141 : decode prog_9_method_34_code 141 = .ok (.aload_n 0, 1) := by decide +kernel
theorem dMo_look_142 : decode prog_9_method_34_code 142 = .ok (.aload_n 0, 1) := by decide +kernel
theorem dMo_look_143 : decode prog_9_method_34_code 143 = .ok (.getfield 126, 3) := by decide +kernel
theorem dMo_look_146 : decode prog_9_method_34_code 146 = .ok (.invokevirtual 129, 3) := by decide +kernel
theorem dMo_look_149 : decode prog_9_method_34_code 149 = .ok (.invokestatic 141, 3) := by decide +kernel
theorem dMo_look_152 : decode prog_9_method_34_code 152 = .ok (.ifCond .eq 49, 3) := by decide +kernel
theorem dMo_look_155 : decode prog_9_method_34_code 155 = .ok (.aload_n 0, 1) := by decide +kernel
theorem dMo_look_156 : decode prog_9_method_34_code 156 = .ok (.aload_n 0, 1) := by decide +kernel
theorem dMo_look_157 : decode prog_9_method_34_code 157 = .ok (.getfield 126, 3) := by decide +kernel
theorem dMo_look_160 : decode prog_9_method_34_code 160 = .ok (.iconst 1, 1) := by decide +kernel
theorem dMo_look_161 : decode prog_9_method_34_code 161 = .ok (.iadd, 1) := by decide +kernel
theorem dMo_look_162 : decode prog_9_method_34_code 162 = .ok (.iload_n 1, 1) := by decide +kernel
theorem dMo_look_163 : decode prog_9_method_34_code 163 = .ok (.if_icmp .ge 7, 3) := by decide +kernel
theorem dMo_look_166 : decode prog_9_method_34_code 166 = .ok (.iconst 4, 1) := by decide +kernel
theorem dMo_look_167 : decode prog_9_method_34_code 167 = .ok (.goto 4, 3) := by decide +kernel
theorem dMo_look_170 : decode prog_9_method_34_code 170 = .ok (.iconst 1, 1) := by decide +kernel
theorem dMo_look_171 : decode prog_9_method_34_code 171 = .ok (.putfield 135, 3) := by decide +kernel
theorem dMo_look_174 : decode prog_9_method_34_code 174 = .ok (.aload_n 0, 1) := by decide +kernel
theorem dMo_look_175 : decode prog_9_method_34_code 175 = .ok (.aload_n 0, 1) := by decide +kernel
theorem dMo_look_176 : decode prog_9_method_34_code 176 = .ok (.getfield 126, 3) := by decide +kernel
theorem dMo_look_179 : decode prog_9_method_34_code 179 = .ok (.iconst 1, 1) := by decide +kernel
theorem dMo_look_180 : decode prog_9_method_34_code 180 = .ok (.iadd, 1) := by decide +kernel
theorem dMo_look_181 : decode prog_9_method_34_code 181 = .ok (.iload_n 1, 1) := by decide +kernel
theorem dMo_look_182 : decode prog_9_method_34_code 182 = .ok (.if_icmp .ge 12, 3) := by decide +kernel
theorem dMo_look_185 : decode prog_9_method_34_code 185 = .ok (.aload_n 0, 1) := by decide +kernel
theorem dMo_look_186 : decode prog_9_method_34_code 186 = .ok (.getfield 126, 3) := by decide +kernel
theorem dMo_look_189 : decode prog_9_method_34_code 189 = .ok (.iconst 2, 1) := by decide +kernel
theorem dMo_look_190 : decode prog_9_method_34_code 190 = .ok (.iadd, 1) := by decide +kernel
theorem dMo_look_191 : decode prog_9_method_34_code 191 = .ok (.goto 4, 3) := by decide +kernel
theorem dMo_look_194 : decode prog_9_method_34_code 194 = .ok (.iload_n 1, 1) := by decide +kernel
theorem dMo_look_195 : decode prog_9_method_34_code 195 = .ok (.putfield 132, 3) := by decide +kernel
theorem dMo_look_198 : decode prog_9_method_34_code 198 = .ok (.goto 56, 3) := by decide +kernel
theorem dMo_look_201 : decode prog_9_method_34_code 201 = .ok (.aload_n 0, 1) := by decide +kernel
theorem dMo_look_202 : decode prog_9_method_34_code 202 = .ok (.aload_n 0, 1) := by decide +kernel
theorem dMo_look_203 : decode prog_9_method_34_code 203 = .ok (.getfield 126, 3) := by decide +kernel
theorem dMo_look_206 : decode prog_9_method_34_code 206 = .ok (.invokevirtual 129, 3) := by decide +kernel
theorem dMo_look_209 : decode prog_9_method_34_code 209 = .ok (.bipush 95, 2) := by decide +kernel
theorem dMo_look_211 : decode prog_9_method_34_code 211 = .ok (.if_icmp .eq 30, 3) := by decide +kernel
theorem dMo_look_214 : decode prog_9_method_34_code 214 = .ok (.aload_n 0, 1) := by decide +kernel
theorem dMo_look_215 : decode prog_9_method_34_code 215 = .ok (.aload_n 0, 1) := by decide +kernel
theorem dMo_look_216 : decode prog_9_method_34_code 216 = .ok (.getfield 126, 3) := by decide +kernel
theorem dMo_look_219 : decode prog_9_method_34_code 219 = .ok (.invokevirtual 129, 3) := by decide +kernel
theorem dMo_look_222 : decode prog_9_method_34_code 222 = .ok (.bipush 46, 2) := by decide +kernel
theorem dMo_look_224 : decode prog_9_method_34_code 224 = .ok (.if_icmp .eq 17, 3) := by decide +kernel
theorem dMo_look_227 : decode prog_9_method_34_code 227 = .ok (.aload_n 0, 1) := by decide +kernel
theorem dMo_look_228 : decode prog_9_method_34_code 228 = .ok (.aload_n 0, 1) := by decide +kernel
theorem dMo_look_229 : decode prog_9_method_34_code 229 = .ok (.getfield 126, 3) := by decide +kernel
theorem dMo_look_232 : decode prog_9_method_34_code 232 = .ok (.invokevirtual 129, 3) := by decide +kernel
theorem dMo_look_235 : decode prog_9_method_34_code 235 = .ok (.invokestatic 145, 3) := by decide +kernel
theorem dMo_look_238 : decode prog_9_method_34_code 238 = .ok (.ifCond .eq 11, 3) := by decide +kernel
theorem dMo_look_241 : decode prog_9_method_34_code 241 = .ok (.aload_n 0, 1) := by decide +kernel
theorem dMo_look_242 : decode prog_9_method_34_code 242 = .ok (.iload_n 1, 1) := by decide +kernel
theorem dMo_look_243 : decode prog_9_method_34_code 243 = .ok (.invokevirtual 148, 3) := by decide +kernel
theorem dMo_look_246 : decode prog_9_method_34_code 246 = .ok (.goto 8, 3) := by decide +kernel
theorem dMo_look_249 : decode prog_9_method_34_code 249 = .ok (.aload_n 0, 1) := by decide +kernel
theorem dMo_look_250 : decode prog_9_method_34_code 250 = .ok (.iconst 5, 1) := by decide +kernel
theorem dMo_look_251 : decode prog_9_method_34_code 251 = .ok (.putfield 135, 3) := by decide +kernel
theorem dMo_look_254 : decode prog_9_method_34_code 254 = .ok (.return_, 1) := by decide +kernel
abbrev qMo_look (dC : Nat → ClassId) (dI : Nat → Nat → Nat) (dA : Nat → ClassId) (mo : Nat) (ft : Int) (lf : Int) (hg : Int) (kk : Int) (tx : Int) (pn : Int) (tk : Int) (fm : Int) (tO : Int) (tl : Int) (mI : Int → Int) (mT : Int → Int) (mS : Int → Int) (mC : Int → Int) (mL : Int → Int) (mB : Int → Int) (mF : Int → Int) (mU : Int → Int) (mX : Int → Int) (mP : Int → Int) (mK : Int → Int) (mD : Int → Int) (mZ : Int → Int) (s0 : Int) (e0 : Int) (A : Nat → Prop) : Array Value → State → Outcome → State → Prop := QV (dC, dI) vwCl (tyA dA) (fun (v_ : Int × Int × Int) => lkR (gS tx mX mI) s0 e0 tx v_.2.2 v_.1 v_.2.1) (fun (v_ : Int × Int × Int) => wMo dA mo ft lf hg kk tx pn v_.1 v_.2.2 v_.2.1 tl mI mT mS mC mL mB mF mU mX mP mK mD mZ []) A
abbrev rmMo_look : Room := { frames := 2, cells := 0, slots := 0, locals := 45 }
set_option maxRecDepth 100000 in
set_option maxHeartbeats 1000000 in
theorem cMo_look (l : Launch) (dC : Nat → ClassId) (dI : Nat → Nat → Nat) (dA : Nat → ClassId) (mo : Nat) (ft : Int) (lf : Int) (hg : Int) (kk : Int) (tx : Int) (pn : Int) (tk : Int) (fm : Int) (tO : Int) (tl : Int) (mI : Int → Int) (mT : Int → Int) (mS : Int → Int) (mC : Int → Int) (mL : Int → Int) (mB : Int → Int) (mF : Int → Int) (mU : Int → Int) (mX : Int → Int) (mP : Int → Int) (mK : Int → Int) (mD : Int → Int) (mZ : Int → Int) (s0 : Int) (e0 : Int) (hsr : srJ tx lf mF mU s0 e0) (hch : ∀ j, s0 ≤ j → j < e0 → 32 ≤ gS tx mX mI j ∧ gS tx mX mI j ≤ 126) (sz : Nat) : Met l yMo_look wsMo_look rmMo_look (PC (dC, dI) vwCl (tyA dA) XN [.ref mo] (wMo dA mo ft lf hg kk tx pn tk fm tO tl mI mT mS mC mL mB mF mU mX mP mK mD mZ []) sz) (qMo_look dC dI dA mo ft lf hg kk tx pn tk fm tO tl mI mT mS mC mL mB mF mU mX mP mK mD mZ s0 e0 (va_A (wMo dA mo ft lf hg kk tx pn tk fm tO tl mI mT mS mC mL mB mF mU mX mP mK mD mZ []) sz)) 0 0 (va_A (wMo dA mo ft lf hg kk tx pn tk fm tO tl mI mT mS mC mL mB mF mU mX mP mK mD mZ []) sz) := by
  refine met_of (cc := prog_9_method_34_code) (maxL := 2) (ret := none) (Qc := qMo_look dC dI dA mo ft lf hg kk tx pn tk fm tO tl mI mT mS mC mL mB mF mU mX mP mK mD mZ s0 e0) XN_ok (by decide) rfl (Nat.le_of_ble_eq_true rfl) ?_
  intro p e s m below meth c ls A hx hb hr hml hown hts hlocks hnm hK hP hD hA hX hS hl
  have hl : lv_has ls 2 [(0, .ref mo)] := hl
  have hown : s.vm.findClass "MacroReckonerModel" = some m.cls := hown
  obtain ⟨H, hH⟩ : ∃ H : Heap, H = s.heap := ⟨_, rfl⟩
  obtain ⟨locs, hlo⟩ : ∃ L : List Loc, L = [] := ⟨_, rfl⟩
  have hP : va_P (dC, dI) vwCl (wMo dA mo ft lf hg kk tx pn tk fm tO tl mI mT mS mC mL mB mF mU mX mP mK mD mZ []) H := hH ▸ hP
  have hS : va_S A s.heap H locs := by rw [hH, hlo]; exact hS
  suffices hgo : W p l e rmMo_look s m [.ref mo].toArray below meth c H locs 0 0 (MQ below (qMo_look dC dI dA mo ft lf hg kk tx pn tk fm tO tl mI mT mS mC mL mB mF mU mX mP mK mD mZ s0 e0 A) [.ref mo].toArray s 0 0 A) (F0 m 0 ls []) by rw [hH, hlo] at hgo; exact hgo
  clear hH hlo
  unfold srJ at hsr
  refine lv_aload_n hx hb dMo_look_0 rfl (lv_at hl 0 rfl) ?_
  refine va_get (D := (dC, dI)) (ci := 7) (v := .int (iI tx)) (C := "MacroReckonerModel") (T := TMo) (N := 23) hx hb hts inMo hown hK hP 0 rfl rfl 10 (by decide) (hts _ wt4_68) (fun _ h9 => h9) rfl dMo_look_1 ?_
  have J52 : ∀ (n : Nat) (f9 : Int) (e9 : Int) (H : Heap) (locs : List Loc) (ls : Array Slot), (e9 = e0) → (s0 ≤ f9 ∧ f9 ≤ e0) → (∀ j, s0 ≤ j → j < f9 → gS tx mX mI j = 32) → (e0 - f9).toNat < n → va_P (dC, dI) vwCl (wMo dA mo ft lf hg kk tx pn tk f9 tO tl mI mT mS mC mL mB mF mU mX mP mK mD mZ []) H → va_D A (wMo dA mo ft lf hg kk tx pn tk f9 tO tl mI mT mS mC mL mB mF mU mX mP mK mD mZ []) → va_S A s.heap H locs → lv_has ls 2 [(0, .ref mo), (1, .int (iI e9))] → W p l e rmMo_look s m [.ref mo].toArray below meth c H locs 0 0 (MQ below (qMo_look dC dI dA mo ft lf hg kk tx pn tk fm tO tl mI mT mS mC mL mB mF mU mX mP mK mD mZ s0 e0 A) [.ref mo].toArray s 0 0 A) (F0 m 52 ls []) := by
    intro n
    induction n with
    | zero => intro f9 e9 H locs ls he9 hk hsp hn; omega
    | succ n ih =>
      intro f9 e9 H locs ls he9 hk hsp hn hP hD hS hl
      have ih52 := ih
      refine lv_aload_n hx hb dMo_look_52 rfl (lv_at hl 0 rfl) ?_
      refine va_get (D := (dC, dI)) (ci := 7) (v := .int (iI f9)) (C := "MacroReckonerModel") (T := TMo) (N := 23) hx hb hts inMo hown hK hP 0 rfl rfl 17 (by decide) (hts _ wt4_75) (fun _ h9 => h9) rfl dMo_look_53 ?_
      refine lv_iload_n hx hb dMo_look_56 rfl (lv_at hl 1 rfl) ?_
      refine iv_icmp_ge (tgt := 86) hx hb dMo_look_57 (by decide) ⟨by omega, by omega⟩ ⟨by omega, by omega⟩ (fun hc57 => ?_) (fun hc57 => ?_)
      · have hsk : skR (gS tx mX mI) s0 e0 f9 := ⟨by omega, by omega, hsp, fun z => by omega⟩
        refine lv_aload_n hx hb dMo_look_86 rfl (lv_at hl 0 rfl) ?_
        refine lv_aload_n hx hb dMo_look_87 rfl (lv_at hl 0 rfl) ?_
        refine va_get (D := (dC, dI)) (ci := 7) (v := .int (iI f9)) (C := "MacroReckonerModel") (T := TMo) (N := 23) hx hb hts inMo hown hK hP 0 rfl rfl 17 (by decide) (hts _ wt4_75) (fun _ h9 => h9) rfl dMo_look_88 ?_
        refine lv_iconst (v := iI 1) hx hb dMo_look_91 rfl ?_
        refine iv_iadd hx hb dMo_look_92 ?_
        refine va_put (D := (dC, dI)) (ci := 7) (v := .int (iI (f9 + 1))) (ty := .int) (C := "MacroReckonerModel") (T := TMo) (N := 23) hx hb hts inMo tyMo tyMo_ok nmMo hown hK hP hD hS 0 rfl rfl 18 (by decide) (hts _ wt4_76) (fun _ h9 => h9) rfl (by decide +kernel) rfl rfl (Nat.le_of_ble_eq_true rfl) dMo_look_93 (fun H locs hP hD hS => ?_)
        have hP : va_P (dC, dI) vwCl (wMo dA mo ft lf hg kk tx pn tk f9 (f9 + 1) tl mI mT mS mC mL mB mF mU mX mP mK mD mZ []) H := hP
        have hD : va_D A (wMo dA mo ft lf hg kk tx pn tk f9 (f9 + 1) tl mI mT mS mC mL mB mF mU mX mP mK mD mZ []) := hD
        refine lv_aload_n hx hb dMo_look_96 rfl (lv_at hl 0 rfl) ?_
        refine va_get (D := (dC, dI)) (ci := 7) (v := .int (iI f9)) (C := "MacroReckonerModel") (T := TMo) (N := 23) hx hb hts inMo hown hK hP 0 rfl rfl 17 (by decide) (hts _ wt4_75) (fun _ h9 => h9) rfl dMo_look_97 ?_
        refine lv_iload_n hx hb dMo_look_100 rfl (lv_at hl 1 rfl) ?_
        refine iv_icmp_ne (tgt := 120) hx hb dMo_look_101 (by decide) ⟨by omega, by omega⟩ ⟨by omega, by omega⟩ (fun hc101 => absurd hc101 (by omega)) (fun hc101 => ?_)
        refine lv_aload_n hx hb dMo_look_104 rfl (lv_at hl 0 rfl) ?_
        refine lv_aload_n hx hb dMo_look_105 rfl (lv_at hl 0 rfl) ?_
        refine va_get (D := (dC, dI)) (ci := 7) (v := .int (iI f9)) (C := "MacroReckonerModel") (T := TMo) (N := 23) hx hb hts inMo hown hK hP 0 rfl rfl 17 (by decide) (hts _ wt4_75) (fun _ h9 => h9) rfl dMo_look_106 ?_
        refine va_put (D := (dC, dI)) (ci := 7) (v := .int (iI f9)) (ty := .int) (C := "MacroReckonerModel") (T := TMo) (N := 23) hx hb hts inMo tyMo tyMo_ok nmMo hown hK hP hD hS 0 rfl rfl 18 (by decide) (hts _ wt4_76) (fun _ h9 => h9) rfl (by decide +kernel) rfl rfl (Nat.le_of_ble_eq_true rfl) dMo_look_109 (fun H locs hP hD hS => ?_)
        have hP : va_P (dC, dI) vwCl (wMo dA mo ft lf hg kk tx pn tk f9 f9 tl mI mT mS mC mL mB mF mU mX mP mK mD mZ []) H := hP
        have hD : va_D A (wMo dA mo ft lf hg kk tx pn tk f9 f9 tl mI mT mS mC mL mB mF mU mX mP mK mD mZ []) := hD
        refine lv_aload_n hx hb dMo_look_112 rfl (lv_at hl 0 rfl) ?_
        refine lv_iconst (v := iI 0) hx hb dMo_look_113 rfl ?_
        refine va_put (D := (dC, dI)) (ci := 7) (v := .int (iI 0)) (ty := .int) (C := "MacroReckonerModel") (T := TMo) (N := 23) hx hb hts inMo tyMo tyMo_ok nmMo hown hK hP hD hS 0 rfl rfl 16 (by decide) (hts _ wt4_74) (fun _ h9 => h9) rfl (by decide +kernel) rfl rfl (Nat.le_of_ble_eq_true rfl) dMo_look_114 (fun H locs hP hD hS => ?_)
        have hP : va_P (dC, dI) vwCl (wMo dA mo ft lf hg kk tx pn 0 f9 f9 tl mI mT mS mC mL mB mF mU mX mP mK mD mZ []) H := hP
        have hD : va_D A (wMo dA mo ft lf hg kk tx pn 0 f9 f9 tl mI mT mS mC mL mB mF mU mX mP mK mD mZ []) := hD
        refine lv_goto (tgt := 254) hx hb dMo_look_117 (by decide) ?_
        exact rt_v hx hb hr hlocks hK hS dMo_look_254 (0, f9, f9) hP hD (show lkR (gS tx mX mI) s0 e0 tx f9 0 f9 from by first | exact ⟨hsk, Or.inl ⟨by omega, rfl, by omega⟩⟩ | exact lk_t hsk (by omega) (by omega) hq135 | exact lk_p hsk (by omega) hps (by omega) | exact lk_n hsk (by omega) hns (by omega) hq243.1 hq243.2 | exact lk_s hsk (by omega) (by omega) hnp (by unfold nst; omega) rfl rfl)
      · have hcf := hch f9 (by omega) (by omega)
        refine lv_aload_n hx hb dMo_look_60 rfl (lv_at hl 0 rfl) ?_
        refine lv_aload_n hx hb dMo_look_61 rfl (lv_at hl 0 rfl) ?_
        refine va_get (D := (dC, dI)) (ci := 7) (v := .int (iI f9)) (C := "MacroReckonerModel") (T := TMo) (N := 23) hx hb hts inMo hown hK hP 0 rfl rfl 17 (by decide) (hts _ wt4_75) (fun _ h9 => h9) rfl dMo_look_62 ?_
        refine cv_i (va_runV (C := "MacroReckonerModel") (As := [.int (iI f9)]) (rest := []) ⟨hx, hb, hml, hown, hts⟩ (cMo_at l dC dI dA mo ft lf hg kk tx pn tk f9 tO tl mI mT mS mC mL mB mF mU mX mP mK mD mZ f9 (by omega) H.size) (cwV 1 hts (gdV wt4_149 wt4_151 ws3_9 wt1_8 wt4_152) rfl rfl rfl ⟨rfl, by decide, by decide, by decide +kernel⟩ ⟨by decide, by decide⟩) (preV (q := ("MacroReckonerModel", TMo, 23)) hK hP hD hS hA XN_ok trivial [0, 1, 2, 3, 4, 5, 6, 7, 8, 9, 10, 11, 12, 13] rfl rfl 0 rfl rfl) rfl rfl hl.1 rfl (lv_room (Nat.le_of_ble_eq_true rfl)) dMo_look_65 ⟨Nat.zero_le _, Nat.zero_le _⟩) hP hD hS hA [0, 1, 2, 3, 4, 5, 6, 7, 8, 9, 10, 11, 12, 13] [] rfl (fun v_ => wMo dA mo ft lf hg kk tx pn tk f9 tO tl mI mT mS mC mL mB mF mU mX mP mK mD mZ []) (fun _ => rfl) ([] : va_W) rfl (fun _ => rfl) [mo, mo + 1, mo + 2, mo + 3, mo + 4, mo + 5, mo + 6, mo + 7, mo + 8, mo + 9, mo + 10, mo + 11, mo + 12, mo + 13] rfl (fun _ => rfl) (fun _ => rfl) (fun r65 u_ H locs hq65 hP hD hS => ?_)
        have hP : va_P (dC, dI) vwCl (wMo dA mo ft lf hg kk tx pn tk f9 tO tl mI mT mS mC mL mB mF mU mX mP mK mD mZ []) H := hP
        have hD : va_D A (wMo dA mo ft lf hg kk tx pn tk f9 tO tl mI mT mS mC mL mB mF mU mX mP mK mD mZ []) := hD
        have hq65 : r65 = gS tx mX mI f9 := hq65
        refine lv_bipush (v := iI 32) hx hb dMo_look_68 (by decide) ?_
        refine iv_icmp_ne (tgt := 86) hx hb dMo_look_70 (by decide) ⟨by omega, by omega⟩ ⟨by decide, by decide⟩ (fun hc70 => ?_) (fun hc70 => ?_)
        · have hsk : skR (gS tx mX mI) s0 e0 f9 := ⟨by omega, by omega, hsp, fun z => by omega⟩
          refine lv_aload_n hx hb dMo_look_86 rfl (lv_at hl 0 rfl) ?_
          refine lv_aload_n hx hb dMo_look_87 rfl (lv_at hl 0 rfl) ?_
          refine va_get (D := (dC, dI)) (ci := 7) (v := .int (iI f9)) (C := "MacroReckonerModel") (T := TMo) (N := 23) hx hb hts inMo hown hK hP 0 rfl rfl 17 (by decide) (hts _ wt4_75) (fun _ h9 => h9) rfl dMo_look_88 ?_
          refine lv_iconst (v := iI 1) hx hb dMo_look_91 rfl ?_
          refine iv_iadd hx hb dMo_look_92 ?_
          refine va_put (D := (dC, dI)) (ci := 7) (v := .int (iI (f9 + 1))) (ty := .int) (C := "MacroReckonerModel") (T := TMo) (N := 23) hx hb hts inMo tyMo tyMo_ok nmMo hown hK hP hD hS 0 rfl rfl 18 (by decide) (hts _ wt4_76) (fun _ h9 => h9) rfl (by decide +kernel) rfl rfl (Nat.le_of_ble_eq_true rfl) dMo_look_93 (fun H locs hP hD hS => ?_)
          have hP : va_P (dC, dI) vwCl (wMo dA mo ft lf hg kk tx pn tk f9 (f9 + 1) tl mI mT mS mC mL mB mF mU mX mP mK mD mZ []) H := hP
          have hD : va_D A (wMo dA mo ft lf hg kk tx pn tk f9 (f9 + 1) tl mI mT mS mC mL mB mF mU mX mP mK mD mZ []) := hD
          refine lv_aload_n hx hb dMo_look_96 rfl (lv_at hl 0 rfl) ?_
          refine va_get (D := (dC, dI)) (ci := 7) (v := .int (iI f9)) (C := "MacroReckonerModel") (T := TMo) (N := 23) hx hb hts inMo hown hK hP 0 rfl rfl 17 (by decide) (hts _ wt4_75) (fun _ h9 => h9) rfl dMo_look_97 ?_
          refine lv_iload_n hx hb dMo_look_100 rfl (lv_at hl 1 rfl) ?_
          refine iv_icmp_ne (tgt := 120) hx hb dMo_look_101 (by decide) ⟨by omega, by omega⟩ ⟨by omega, by omega⟩ (fun hc101 => ?_) (fun hc101 => absurd hc101 (by omega))
          refine lv_aload_n hx hb dMo_look_120 rfl (lv_at hl 0 rfl) ?_
          refine lv_aload_n hx hb dMo_look_121 rfl (lv_at hl 0 rfl) ?_
          refine va_get (D := (dC, dI)) (ci := 7) (v := .int (iI f9)) (C := "MacroReckonerModel") (T := TMo) (N := 23) hx hb hts inMo hown hK hP 0 rfl rfl 17 (by decide) (hts _ wt4_75) (fun _ h9 => h9) rfl dMo_look_122 ?_
          refine cv_i (va_runV (C := "MacroReckonerModel") (As := [.int (iI f9)]) (rest := []) ⟨hx, hb, hml, hown, hts⟩ (cMo_at l dC dI dA mo ft lf hg kk tx pn tk f9 ((f9 + 1)) tl mI mT mS mC mL mB mF mU mX mP mK mD mZ f9 (by omega) H.size) (cwV 1 hts (gdV wt4_149 wt4_151 ws3_9 wt1_8 wt4_152) rfl rfl rfl ⟨rfl, by decide, by decide, by decide +kernel⟩ ⟨by decide, by decide⟩) (preV (q := ("MacroReckonerModel", TMo, 23)) hK hP hD hS hA XN_ok trivial [0, 1, 2, 3, 4, 5, 6, 7, 8, 9, 10, 11, 12, 13] rfl rfl 0 rfl rfl) rfl rfl hl.1 rfl (lv_room (Nat.le_of_ble_eq_true rfl)) dMo_look_125 ⟨Nat.zero_le _, Nat.zero_le _⟩) hP hD hS hA [0, 1, 2, 3, 4, 5, 6, 7, 8, 9, 10, 11, 12, 13] [] rfl (fun v_ => wMo dA mo ft lf hg kk tx pn tk f9 (((f9 + 1))) tl mI mT mS mC mL mB mF mU mX mP mK mD mZ []) (fun _ => rfl) ([] : va_W) rfl (fun _ => rfl) [mo, mo + 1, mo + 2, mo + 3, mo + 4, mo + 5, mo + 6, mo + 7, mo + 8, mo + 9, mo + 10, mo + 11, mo + 12, mo + 13] rfl (fun _ => rfl) (fun _ => rfl) (fun r125 u_ H locs hq125 hP hD hS => ?_)
          have hP : va_P (dC, dI) vwCl (wMo dA mo ft lf hg kk tx pn tk f9 (((f9 + 1))) tl mI mT mS mC mL mB mF mU mX mP mK mD mZ []) H := hP
          have hD : va_D A (wMo dA mo ft lf hg kk tx pn tk f9 (((f9 + 1))) tl mI mT mS mC mL mB mF mU mX mP mK mD mZ []) := hD
          have hq125 : r125 = gS tx mX mI f9 := hq125
          refine lv_bipush (v := iI 91) hx hb dMo_look_128 (by decide) ?_
          refine iv_icmp_ne (tgt := 141) hx hb dMo_look_130 (by decide) ⟨by omega, by omega⟩ ⟨by decide, by decide⟩ (fun hc130 => ?_) (fun hc130 => ?_)
          · refine lv_aload_n hx hb dMo_look_141 rfl (lv_at hl 0 rfl) ?_
            refine lv_aload_n hx hb dMo_look_142 rfl (lv_at hl 0 rfl) ?_
            refine va_get (D := (dC, dI)) (ci := 7) (v := .int (iI f9)) (C := "MacroReckonerModel") (T := TMo) (N := 23) hx hb hts inMo hown hK hP 0 rfl rfl 17 (by decide) (hts _ wt4_75) (fun _ h9 => h9) rfl dMo_look_143 ?_
            refine cv_i (va_runV (C := "MacroReckonerModel") (As := [.int (iI f9)]) (rest := []) ⟨hx, hb, hml, hown, hts⟩ (cMo_at l dC dI dA mo ft lf hg kk tx pn tk f9 ((((f9 + 1)))) tl mI mT mS mC mL mB mF mU mX mP mK mD mZ f9 (by omega) H.size) (cwV 1 hts (gdV wt4_149 wt4_151 ws3_9 wt1_8 wt4_152) rfl rfl rfl ⟨rfl, by decide, by decide, by decide +kernel⟩ ⟨by decide, by decide⟩) (preV (q := ("MacroReckonerModel", TMo, 23)) hK hP hD hS hA XN_ok trivial [0, 1, 2, 3, 4, 5, 6, 7, 8, 9, 10, 11, 12, 13] rfl rfl 0 rfl rfl) rfl rfl hl.1 rfl (lv_room (Nat.le_of_ble_eq_true rfl)) dMo_look_146 ⟨Nat.zero_le _, Nat.zero_le _⟩) hP hD hS hA [0, 1, 2, 3, 4, 5, 6, 7, 8, 9, 10, 11, 12, 13] [] rfl (fun v_ => wMo dA mo ft lf hg kk tx pn tk f9 (((((f9 + 1))))) tl mI mT mS mC mL mB mF mU mX mP mK mD mZ []) (fun _ => rfl) ([] : va_W) rfl (fun _ => rfl) [mo, mo + 1, mo + 2, mo + 3, mo + 4, mo + 5, mo + 6, mo + 7, mo + 8, mo + 9, mo + 10, mo + 11, mo + 12, mo + 13] rfl (fun _ => rfl) (fun _ => rfl) (fun r146 u_ H locs hq146 hP hD hS => ?_)
            have hP : va_P (dC, dI) vwCl (wMo dA mo ft lf hg kk tx pn tk f9 (((((f9 + 1))))) tl mI mT mS mC mL mB mF mU mX mP mK mD mZ []) H := hP
            have hD : va_D A (wMo dA mo ft lf hg kk tx pn tk f9 (((((f9 + 1))))) tl mI mT mS mC mL mB mF mU mX mP mK mD mZ []) := hD
            have hq146 : r146 = gS tx mX mI f9 := hq146
            refine cv_i (va_runS (As := [.int (iI r146)]) (rest := []) ⟨hx, hb, hml, hown, hts⟩ (cMo_isPairSign l dC dI dA r146 (by omega) H.size) (cwS 1 hts (gdS wt4_157 wt4_158 wt1_8 wt4_159) rfl rfl rfl ⟨rfl, by decide, by decide, by decide +kernel⟩ ⟨by decide, by decide⟩) (preS hK hP hD hS hA XN_ok trivial [] rfl rfl) rfl rfl hl.1 rfl (lv_room (Nat.le_of_ble_eq_true rfl)) dMo_look_149 ⟨Nat.zero_le _, Nat.zero_le _⟩) hP hD hS hA [] [0, 1, 2, 3, 4, 5, 6, 7, 8, 9, 10, 11, 12, 13] rfl (fun v_ => wMo dA mo ft lf hg kk tx pn tk f9 (((((f9 + 1))))) tl mI mT mS mC mL mB mF mU mX mP mK mD mZ []) (fun _ => rfl) (wMo dA mo ft lf hg kk tx pn tk f9 (((((f9 + 1))))) tl mI mT mS mC mL mB mF mU mX mP mK mD mZ []) rfl (fun _ => rfl) [mo, mo + 1, mo + 2, mo + 3, mo + 4, mo + 5, mo + 6, mo + 7, mo + 8, mo + 9, mo + 10, mo + 11, mo + 12, mo + 13] rfl (fun _ => rfl) (fun _ => rfl) (fun r149 u_ H locs hq149 hP hD hS => ?_)
            have hP : va_P (dC, dI) vwCl (wMo dA mo ft lf hg kk tx pn tk f9 (((((f9 + 1))))) tl mI mT mS mC mL mB mF mU mX mP mK mD mZ []) H := hP
            have hD : va_D A (wMo dA mo ft lf hg kk tx pn tk f9 (((((f9 + 1))))) tl mI mT mS mC mL mB mF mU mX mP mK mD mZ []) := hD
            have hq149 : (r149 = 1 ∧ prs r146) ∨ (r149 = 0 ∧ ¬ prs r146) := hq149
            refine iv_if_eq (tgt := 201) hx hb dMo_look_152 (by decide) ⟨by omega, by omega⟩ (fun hc152 => ?_) (fun hc152 => ?_)
            · have hnp : ¬ prs (gS tx mX mI f9) := by rcases hq149 with ⟨z1, z2⟩ | ⟨z1, z2⟩; omega; rw [hq146] at z2; exact z2
              refine lv_aload_n hx hb dMo_look_201 rfl (lv_at hl 0 rfl) ?_
              refine lv_aload_n hx hb dMo_look_202 rfl (lv_at hl 0 rfl) ?_
              refine va_get (D := (dC, dI)) (ci := 7) (v := .int (iI f9)) (C := "MacroReckonerModel") (T := TMo) (N := 23) hx hb hts inMo hown hK hP 0 rfl rfl 17 (by decide) (hts _ wt4_75) (fun _ h9 => h9) rfl dMo_look_203 ?_
              refine cv_i (va_runV (C := "MacroReckonerModel") (As := [.int (iI f9)]) (rest := []) ⟨hx, hb, hml, hown, hts⟩ (cMo_at l dC dI dA mo ft lf hg kk tx pn tk f9 ((((((f9 + 1)))))) tl mI mT mS mC mL mB mF mU mX mP mK mD mZ f9 (by omega) H.size) (cwV 1 hts (gdV wt4_149 wt4_151 ws3_9 wt1_8 wt4_152) rfl rfl rfl ⟨rfl, by decide, by decide, by decide +kernel⟩ ⟨by decide, by decide⟩) (preV (q := ("MacroReckonerModel", TMo, 23)) hK hP hD hS hA XN_ok trivial [0, 1, 2, 3, 4, 5, 6, 7, 8, 9, 10, 11, 12, 13] rfl rfl 0 rfl rfl) rfl rfl hl.1 rfl (lv_room (Nat.le_of_ble_eq_true rfl)) dMo_look_206 ⟨Nat.zero_le _, Nat.zero_le _⟩) hP hD hS hA [0, 1, 2, 3, 4, 5, 6, 7, 8, 9, 10, 11, 12, 13] [] rfl (fun v_ => wMo dA mo ft lf hg kk tx pn tk f9 (((((((f9 + 1))))))) tl mI mT mS mC mL mB mF mU mX mP mK mD mZ []) (fun _ => rfl) ([] : va_W) rfl (fun _ => rfl) [mo, mo + 1, mo + 2, mo + 3, mo + 4, mo + 5, mo + 6, mo + 7, mo + 8, mo + 9, mo + 10, mo + 11, mo + 12, mo + 13] rfl (fun _ => rfl) (fun _ => rfl) (fun r206 u_ H locs hq206 hP hD hS => ?_)
              have hP : va_P (dC, dI) vwCl (wMo dA mo ft lf hg kk tx pn tk f9 (((((((f9 + 1))))))) tl mI mT mS mC mL mB mF mU mX mP mK mD mZ []) H := hP
              have hD : va_D A (wMo dA mo ft lf hg kk tx pn tk f9 (((((((f9 + 1))))))) tl mI mT mS mC mL mB mF mU mX mP mK mD mZ []) := hD
              have hq206 : r206 = gS tx mX mI f9 := hq206
              refine lv_bipush (v := iI 95) hx hb dMo_look_209 (by decide) ?_
              refine iv_icmp_eq (tgt := 241) hx hb dMo_look_211 (by decide) ⟨by omega, by omega⟩ ⟨by decide, by decide⟩ (fun hc211 => ?_) (fun hc211 => ?_)
              · have hns : nst (gS tx mX mI f9) := by unfold nst; omega
                refine lv_aload_n hx hb dMo_look_241 rfl (lv_at hl 0 rfl) ?_
                refine lv_iload_n hx hb dMo_look_242 rfl (lv_at hl 1 rfl) ?_
                refine cv_v (va_runV (C := "MacroReckonerModel") (As := [.int (iI e9)]) (rest := []) ⟨hx, hb, hml, hown, hts⟩ (cMo_lookNumeral l dC dI dA mo ft lf hg kk tx pn tk f9 ((((((((f9 + 1)))))))) tl mI mT mS mC mL mB mF mU mX mP mK mD mZ e9 (by omega) (by omega) (by intro j x y; exact hch j (by omega) (by omega)) H.size) (cwV 1 hts (gdV wt4_163 wt4_165 ws3_11 wt1_8 wt4_166) rfl rfl rfl ⟨rfl, by decide, by decide, by decide +kernel⟩ ⟨by decide, by decide⟩) (preV (q := ("MacroReckonerModel", TMo, 23)) hK hP hD hS hA XN_ok trivial [0, 1, 2, 3, 4, 5, 6, 7, 8, 9, 10, 11, 12, 13] rfl rfl 0 rfl rfl) rfl rfl hl.1 rfl (lv_room (Nat.le_of_ble_eq_true rfl)) dMo_look_243 ⟨Nat.zero_le _, Nat.zero_le _⟩) hP hD hS hA [0, 1, 2, 3, 4, 5, 6, 7, 8, 9, 10, 11, 12, 13] [] rfl (fun v_ => wMo dA mo ft lf hg kk tx pn v_.1 f9 v_.2.1 tl mI mT mS mC mL mB mF mU mX mP mK mD mZ []) (fun _ => rfl) ([] : va_W) rfl (fun _ => rfl) [mo, mo + 1, mo + 2, mo + 3, mo + 4, mo + 5, mo + 6, mo + 7, mo + 8, mo + 9, mo + 10, mo + 11, mo + 12, mo + 13] rfl (fun _ => rfl) (fun _ => rfl) (fun u_ H locs hq243 hP hD hS => ?_)
                obtain ⟨tk1_243, tO1_243, q1_243⟩ := u_
                have hP : va_P (dC, dI) vwCl (wMo dA mo ft lf hg kk tx pn tk1_243 f9 tO1_243 tl mI mT mS mC mL mB mF mU mX mP mK mD mZ []) H := hP
                have hD : va_D A (wMo dA mo ft lf hg kk tx pn tk1_243 f9 tO1_243 tl mI mT mS mC mL mB mF mU mX mP mK mD mZ []) := hD
                have hq243 : nmR (gS tx mX mI) (np (gS tx mX mI) f9) e9 q1_243 ∧ ((q1_243 = e9 ∧ (tx = 0 ∨ ¬ hasD (gS tx mX mI) (np (gS tx mX mI) f9) q1_243) ∧ tk1_243 = 1 ∧ tO1_243 = e9) ∨ (hasD (gS tx mX mI) (np (gS tx mX mI) f9) q1_243 ∧ (q1_243 < e9 ∨ tx ≠ 0) ∧ tk1_243 = 2 ∧ tO1_243 = q1_243) ∨ (¬ hasD (gS tx mX mI) (np (gS tx mX mI) f9) q1_243 ∧ q1_243 < e9 ∧ tk1_243 = 5 ∧ tO1_243 = f9 + 1)) := hq243
                rw [he9] at hq243
                refine lv_goto (tgt := 254) hx hb dMo_look_246 (by decide) ?_
                exact rt_v hx hb hr hlocks hK hS dMo_look_254 (tk1_243, tO1_243, f9) hP hD (show lkR (gS tx mX mI) s0 e0 tx f9 tk1_243 tO1_243 from by first | exact ⟨hsk, Or.inl ⟨by omega, rfl, by omega⟩⟩ | exact lk_t hsk (by omega) (by omega) hq135 | exact lk_p hsk (by omega) hps (by omega) | exact lk_n hsk (by omega) hns (by omega) hq243.1 hq243.2 | exact lk_s hsk (by omega) (by omega) hnp (by unfold nst; omega) rfl rfl)
              · refine lv_aload_n hx hb dMo_look_214 rfl (lv_at hl 0 rfl) ?_
                refine lv_aload_n hx hb dMo_look_215 rfl (lv_at hl 0 rfl) ?_
                refine va_get (D := (dC, dI)) (ci := 7) (v := .int (iI f9)) (C := "MacroReckonerModel") (T := TMo) (N := 23) hx hb hts inMo hown hK hP 0 rfl rfl 17 (by decide) (hts _ wt4_75) (fun _ h9 => h9) rfl dMo_look_216 ?_
                refine cv_i (va_runV (C := "MacroReckonerModel") (As := [.int (iI f9)]) (rest := []) ⟨hx, hb, hml, hown, hts⟩ (cMo_at l dC dI dA mo ft lf hg kk tx pn tk f9 ((((((((f9 + 1)))))))) tl mI mT mS mC mL mB mF mU mX mP mK mD mZ f9 (by omega) H.size) (cwV 1 hts (gdV wt4_149 wt4_151 ws3_9 wt1_8 wt4_152) rfl rfl rfl ⟨rfl, by decide, by decide, by decide +kernel⟩ ⟨by decide, by decide⟩) (preV (q := ("MacroReckonerModel", TMo, 23)) hK hP hD hS hA XN_ok trivial [0, 1, 2, 3, 4, 5, 6, 7, 8, 9, 10, 11, 12, 13] rfl rfl 0 rfl rfl) rfl rfl hl.1 rfl (lv_room (Nat.le_of_ble_eq_true rfl)) dMo_look_219 ⟨Nat.zero_le _, Nat.zero_le _⟩) hP hD hS hA [0, 1, 2, 3, 4, 5, 6, 7, 8, 9, 10, 11, 12, 13] [] rfl (fun v_ => wMo dA mo ft lf hg kk tx pn tk f9 (((((((((f9 + 1))))))))) tl mI mT mS mC mL mB mF mU mX mP mK mD mZ []) (fun _ => rfl) ([] : va_W) rfl (fun _ => rfl) [mo, mo + 1, mo + 2, mo + 3, mo + 4, mo + 5, mo + 6, mo + 7, mo + 8, mo + 9, mo + 10, mo + 11, mo + 12, mo + 13] rfl (fun _ => rfl) (fun _ => rfl) (fun r219 u_ H locs hq219 hP hD hS => ?_)
                have hP : va_P (dC, dI) vwCl (wMo dA mo ft lf hg kk tx pn tk f9 (((((((((f9 + 1))))))))) tl mI mT mS mC mL mB mF mU mX mP mK mD mZ []) H := hP
                have hD : va_D A (wMo dA mo ft lf hg kk tx pn tk f9 (((((((((f9 + 1))))))))) tl mI mT mS mC mL mB mF mU mX mP mK mD mZ []) := hD
                have hq219 : r219 = gS tx mX mI f9 := hq219
                refine lv_bipush (v := iI 46) hx hb dMo_look_222 (by decide) ?_
                refine iv_icmp_eq (tgt := 241) hx hb dMo_look_224 (by decide) ⟨by omega, by omega⟩ ⟨by decide, by decide⟩ (fun hc224 => ?_) (fun hc224 => ?_)
                · have hns : nst (gS tx mX mI f9) := by unfold nst; omega
                  refine lv_aload_n hx hb dMo_look_241 rfl (lv_at hl 0 rfl) ?_
                  refine lv_iload_n hx hb dMo_look_242 rfl (lv_at hl 1 rfl) ?_
                  refine cv_v (va_runV (C := "MacroReckonerModel") (As := [.int (iI e9)]) (rest := []) ⟨hx, hb, hml, hown, hts⟩ (cMo_lookNumeral l dC dI dA mo ft lf hg kk tx pn tk f9 ((((((((((f9 + 1)))))))))) tl mI mT mS mC mL mB mF mU mX mP mK mD mZ e9 (by omega) (by omega) (by intro j x y; exact hch j (by omega) (by omega)) H.size) (cwV 1 hts (gdV wt4_163 wt4_165 ws3_11 wt1_8 wt4_166) rfl rfl rfl ⟨rfl, by decide, by decide, by decide +kernel⟩ ⟨by decide, by decide⟩) (preV (q := ("MacroReckonerModel", TMo, 23)) hK hP hD hS hA XN_ok trivial [0, 1, 2, 3, 4, 5, 6, 7, 8, 9, 10, 11, 12, 13] rfl rfl 0 rfl rfl) rfl rfl hl.1 rfl (lv_room (Nat.le_of_ble_eq_true rfl)) dMo_look_243 ⟨Nat.zero_le _, Nat.zero_le _⟩) hP hD hS hA [0, 1, 2, 3, 4, 5, 6, 7, 8, 9, 10, 11, 12, 13] [] rfl (fun v_ => wMo dA mo ft lf hg kk tx pn v_.1 f9 v_.2.1 tl mI mT mS mC mL mB mF mU mX mP mK mD mZ []) (fun _ => rfl) ([] : va_W) rfl (fun _ => rfl) [mo, mo + 1, mo + 2, mo + 3, mo + 4, mo + 5, mo + 6, mo + 7, mo + 8, mo + 9, mo + 10, mo + 11, mo + 12, mo + 13] rfl (fun _ => rfl) (fun _ => rfl) (fun u_ H locs hq243 hP hD hS => ?_)
                  obtain ⟨tk1_243, tO1_243, q1_243⟩ := u_
                  have hP : va_P (dC, dI) vwCl (wMo dA mo ft lf hg kk tx pn tk1_243 f9 tO1_243 tl mI mT mS mC mL mB mF mU mX mP mK mD mZ []) H := hP
                  have hD : va_D A (wMo dA mo ft lf hg kk tx pn tk1_243 f9 tO1_243 tl mI mT mS mC mL mB mF mU mX mP mK mD mZ []) := hD
                  have hq243 : nmR (gS tx mX mI) (np (gS tx mX mI) f9) e9 q1_243 ∧ ((q1_243 = e9 ∧ (tx = 0 ∨ ¬ hasD (gS tx mX mI) (np (gS tx mX mI) f9) q1_243) ∧ tk1_243 = 1 ∧ tO1_243 = e9) ∨ (hasD (gS tx mX mI) (np (gS tx mX mI) f9) q1_243 ∧ (q1_243 < e9 ∨ tx ≠ 0) ∧ tk1_243 = 2 ∧ tO1_243 = q1_243) ∨ (¬ hasD (gS tx mX mI) (np (gS tx mX mI) f9) q1_243 ∧ q1_243 < e9 ∧ tk1_243 = 5 ∧ tO1_243 = f9 + 1)) := hq243
                  rw [he9] at hq243
                  refine lv_goto (tgt := 254) hx hb dMo_look_246 (by decide) ?_
                  exact rt_v hx hb hr hlocks hK hS dMo_look_254 (tk1_243, tO1_243, f9) hP hD (show lkR (gS tx mX mI) s0 e0 tx f9 tk1_243 tO1_243 from by first | exact ⟨hsk, Or.inl ⟨by omega, rfl, by omega⟩⟩ | exact lk_t hsk (by omega) (by omega) hq135 | exact lk_p hsk (by omega) hps (by omega) | exact lk_n hsk (by omega) hns (by omega) hq243.1 hq243.2 | exact lk_s hsk (by omega) (by omega) hnp (by unfold nst; omega) rfl rfl)
                · refine lv_aload_n hx hb dMo_look_227 rfl (lv_at hl 0 rfl) ?_
                  refine lv_aload_n hx hb dMo_look_228 rfl (lv_at hl 0 rfl) ?_
                  refine va_get (D := (dC, dI)) (ci := 7) (v := .int (iI f9)) (C := "MacroReckonerModel") (T := TMo) (N := 23) hx hb hts inMo hown hK hP 0 rfl rfl 17 (by decide) (hts _ wt4_75) (fun _ h9 => h9) rfl dMo_look_229 ?_
                  refine cv_i (va_runV (C := "MacroReckonerModel") (As := [.int (iI f9)]) (rest := []) ⟨hx, hb, hml, hown, hts⟩ (cMo_at l dC dI dA mo ft lf hg kk tx pn tk f9 ((((((((((f9 + 1)))))))))) tl mI mT mS mC mL mB mF mU mX mP mK mD mZ f9 (by omega) H.size) (cwV 1 hts (gdV wt4_149 wt4_151 ws3_9 wt1_8 wt4_152) rfl rfl rfl ⟨rfl, by decide, by decide, by decide +kernel⟩ ⟨by decide, by decide⟩) (preV (q := ("MacroReckonerModel", TMo, 23)) hK hP hD hS hA XN_ok trivial [0, 1, 2, 3, 4, 5, 6, 7, 8, 9, 10, 11, 12, 13] rfl rfl 0 rfl rfl) rfl rfl hl.1 rfl (lv_room (Nat.le_of_ble_eq_true rfl)) dMo_look_232 ⟨Nat.zero_le _, Nat.zero_le _⟩) hP hD hS hA [0, 1, 2, 3, 4, 5, 6, 7, 8, 9, 10, 11, 12, 13] [] rfl (fun v_ => wMo dA mo ft lf hg kk tx pn tk f9 (((((((((((f9 + 1))))))))))) tl mI mT mS mC mL mB mF mU mX mP mK mD mZ []) (fun _ => rfl) ([] : va_W) rfl (fun _ => rfl) [mo, mo + 1, mo + 2, mo + 3, mo + 4, mo + 5, mo + 6, mo + 7, mo + 8, mo + 9, mo + 10, mo + 11, mo + 12, mo + 13] rfl (fun _ => rfl) (fun _ => rfl) (fun r232 u_ H locs hq232 hP hD hS => ?_)
                  have hP : va_P (dC, dI) vwCl (wMo dA mo ft lf hg kk tx pn tk f9 (((((((((((f9 + 1))))))))))) tl mI mT mS mC mL mB mF mU mX mP mK mD mZ []) H := hP
                  have hD : va_D A (wMo dA mo ft lf hg kk tx pn tk f9 (((((((((((f9 + 1))))))))))) tl mI mT mS mC mL mB mF mU mX mP mK mD mZ []) := hD
                  have hq232 : r232 = gS tx mX mI f9 := hq232
                  refine cv_i (va_runS (As := [.int (iI r232)]) (rest := []) ⟨hx, hb, hml, hown, hts⟩ (cMo_isDigit l dC dI dA r232 (by omega) H.size) (cwS 1 hts (gdS wt4_160 wt4_161 wt1_8 wt4_162) rfl rfl rfl ⟨rfl, by decide, by decide, by decide +kernel⟩ ⟨by decide, by decide⟩) (preS hK hP hD hS hA XN_ok trivial [] rfl rfl) rfl rfl hl.1 rfl (lv_room (Nat.le_of_ble_eq_true rfl)) dMo_look_235 ⟨Nat.zero_le _, Nat.zero_le _⟩) hP hD hS hA [] [0, 1, 2, 3, 4, 5, 6, 7, 8, 9, 10, 11, 12, 13] rfl (fun v_ => wMo dA mo ft lf hg kk tx pn tk f9 (((((((((((f9 + 1))))))))))) tl mI mT mS mC mL mB mF mU mX mP mK mD mZ []) (fun _ => rfl) (wMo dA mo ft lf hg kk tx pn tk f9 (((((((((((f9 + 1))))))))))) tl mI mT mS mC mL mB mF mU mX mP mK mD mZ []) rfl (fun _ => rfl) [mo, mo + 1, mo + 2, mo + 3, mo + 4, mo + 5, mo + 6, mo + 7, mo + 8, mo + 9, mo + 10, mo + 11, mo + 12, mo + 13] rfl (fun _ => rfl) (fun _ => rfl) (fun r235 u_ H locs hq235 hP hD hS => ?_)
                  have hP : va_P (dC, dI) vwCl (wMo dA mo ft lf hg kk tx pn tk f9 (((((((((((f9 + 1))))))))))) tl mI mT mS mC mL mB mF mU mX mP mK mD mZ []) H := hP
                  have hD : va_D A (wMo dA mo ft lf hg kk tx pn tk f9 (((((((((((f9 + 1))))))))))) tl mI mT mS mC mL mB mF mU mX mP mK mD mZ []) := hD
                  have hq235 : (r235 = 1 ∧ 48 ≤ r232 ∧ r232 ≤ 57) ∨ (r235 = 0 ∧ (r232 < 48 ∨ 57 < r232)) := hq235
                  refine iv_if_eq (tgt := 249) hx hb dMo_look_238 (by decide) ⟨by omega, by omega⟩ (fun hc238 => ?_) (fun hc238 => ?_)
                  · refine lv_aload_n hx hb dMo_look_249 rfl (lv_at hl 0 rfl) ?_
                    refine lv_iconst (v := iI 5) hx hb dMo_look_250 rfl ?_
                    refine va_put (D := (dC, dI)) (ci := 7) (v := .int (iI 5)) (ty := .int) (C := "MacroReckonerModel") (T := TMo) (N := 23) hx hb hts inMo tyMo tyMo_ok nmMo hown hK hP hD hS 0 rfl rfl 16 (by decide) (hts _ wt4_74) (fun _ h9 => h9) rfl (by decide +kernel) rfl rfl (Nat.le_of_ble_eq_true rfl) dMo_look_251 (fun H locs hP hD hS => ?_)
                    have hP : va_P (dC, dI) vwCl (wMo dA mo ft lf hg kk tx pn 5 f9 (((((((((((f9 + 1))))))))))) tl mI mT mS mC mL mB mF mU mX mP mK mD mZ []) H := hP
                    have hD : va_D A (wMo dA mo ft lf hg kk tx pn 5 f9 (((((((((((f9 + 1))))))))))) tl mI mT mS mC mL mB mF mU mX mP mK mD mZ []) := hD
                    exact rt_v hx hb hr hlocks hK hS dMo_look_254 (5, ((((((((((f9 + 1)))))))))), f9) hP hD (show lkR (gS tx mX mI) s0 e0 tx f9 5 (((((((((((f9 + 1))))))))))) from by first | exact ⟨hsk, Or.inl ⟨by omega, rfl, by omega⟩⟩ | exact lk_t hsk (by omega) (by omega) hq135 | exact lk_p hsk (by omega) hps (by omega) | exact lk_n hsk (by omega) hns (by omega) hq243.1 hq243.2 | exact lk_s hsk (by omega) (by omega) hnp (by unfold nst; omega) rfl rfl)
                  · have hns : nst (gS tx mX mI f9) := by unfold nst; omega
                    refine lv_aload_n hx hb dMo_look_241 rfl (lv_at hl 0 rfl) ?_
                    refine lv_iload_n hx hb dMo_look_242 rfl (lv_at hl 1 rfl) ?_
                    refine cv_v (va_runV (C := "MacroReckonerModel") (As := [.int (iI e9)]) (rest := []) ⟨hx, hb, hml, hown, hts⟩ (cMo_lookNumeral l dC dI dA mo ft lf hg kk tx pn tk f9 ((((((((((((f9 + 1)))))))))))) tl mI mT mS mC mL mB mF mU mX mP mK mD mZ e9 (by omega) (by omega) (by intro j x y; exact hch j (by omega) (by omega)) H.size) (cwV 1 hts (gdV wt4_163 wt4_165 ws3_11 wt1_8 wt4_166) rfl rfl rfl ⟨rfl, by decide, by decide, by decide +kernel⟩ ⟨by decide, by decide⟩) (preV (q := ("MacroReckonerModel", TMo, 23)) hK hP hD hS hA XN_ok trivial [0, 1, 2, 3, 4, 5, 6, 7, 8, 9, 10, 11, 12, 13] rfl rfl 0 rfl rfl) rfl rfl hl.1 rfl (lv_room (Nat.le_of_ble_eq_true rfl)) dMo_look_243 ⟨Nat.zero_le _, Nat.zero_le _⟩) hP hD hS hA [0, 1, 2, 3, 4, 5, 6, 7, 8, 9, 10, 11, 12, 13] [] rfl (fun v_ => wMo dA mo ft lf hg kk tx pn v_.1 f9 v_.2.1 tl mI mT mS mC mL mB mF mU mX mP mK mD mZ []) (fun _ => rfl) ([] : va_W) rfl (fun _ => rfl) [mo, mo + 1, mo + 2, mo + 3, mo + 4, mo + 5, mo + 6, mo + 7, mo + 8, mo + 9, mo + 10, mo + 11, mo + 12, mo + 13] rfl (fun _ => rfl) (fun _ => rfl) (fun u_ H locs hq243 hP hD hS => ?_)
                    obtain ⟨tk1_243, tO1_243, q1_243⟩ := u_
                    have hP : va_P (dC, dI) vwCl (wMo dA mo ft lf hg kk tx pn tk1_243 f9 tO1_243 tl mI mT mS mC mL mB mF mU mX mP mK mD mZ []) H := hP
                    have hD : va_D A (wMo dA mo ft lf hg kk tx pn tk1_243 f9 tO1_243 tl mI mT mS mC mL mB mF mU mX mP mK mD mZ []) := hD
                    have hq243 : nmR (gS tx mX mI) (np (gS tx mX mI) f9) e9 q1_243 ∧ ((q1_243 = e9 ∧ (tx = 0 ∨ ¬ hasD (gS tx mX mI) (np (gS tx mX mI) f9) q1_243) ∧ tk1_243 = 1 ∧ tO1_243 = e9) ∨ (hasD (gS tx mX mI) (np (gS tx mX mI) f9) q1_243 ∧ (q1_243 < e9 ∨ tx ≠ 0) ∧ tk1_243 = 2 ∧ tO1_243 = q1_243) ∨ (¬ hasD (gS tx mX mI) (np (gS tx mX mI) f9) q1_243 ∧ q1_243 < e9 ∧ tk1_243 = 5 ∧ tO1_243 = f9 + 1)) := hq243
                    rw [he9] at hq243
                    refine lv_goto (tgt := 254) hx hb dMo_look_246 (by decide) ?_
                    exact rt_v hx hb hr hlocks hK hS dMo_look_254 (tk1_243, tO1_243, f9) hP hD (show lkR (gS tx mX mI) s0 e0 tx f9 tk1_243 tO1_243 from by first | exact ⟨hsk, Or.inl ⟨by omega, rfl, by omega⟩⟩ | exact lk_t hsk (by omega) (by omega) hq135 | exact lk_p hsk (by omega) hps (by omega) | exact lk_n hsk (by omega) hns (by omega) hq243.1 hq243.2 | exact lk_s hsk (by omega) (by omega) hnp (by unfold nst; omega) rfl rfl)
            · have hps : prs (gS tx mX mI f9) := by rcases hq149 with ⟨z1, z2⟩ | ⟨z1, z2⟩; rw [hq146] at z2; exact z2; omega
              refine lv_aload_n hx hb dMo_look_155 rfl (lv_at hl 0 rfl) ?_
              refine lv_aload_n hx hb dMo_look_156 rfl (lv_at hl 0 rfl) ?_
              refine va_get (D := (dC, dI)) (ci := 7) (v := .int (iI f9)) (C := "MacroReckonerModel") (T := TMo) (N := 23) hx hb hts inMo hown hK hP 0 rfl rfl 17 (by decide) (hts _ wt4_75) (fun _ h9 => h9) rfl dMo_look_157 ?_
              refine lv_iconst (v := iI 1) hx hb dMo_look_160 rfl ?_
              refine iv_iadd hx hb dMo_look_161 ?_
              refine lv_iload_n hx hb dMo_look_162 rfl (lv_at hl 1 rfl) ?_
              refine iv_icmp_ge (tgt := 170) hx hb dMo_look_163 (by decide) ⟨by omega, by omega⟩ ⟨by omega, by omega⟩ (fun hc163 => ?_) (fun hc163 => ?_)
              · refine lv_iconst (v := iI 1) hx hb dMo_look_170 rfl ?_
                refine va_put (D := (dC, dI)) (ci := 7) (v := .int (iI 1)) (ty := .int) (C := "MacroReckonerModel") (T := TMo) (N := 23) hx hb hts inMo tyMo tyMo_ok nmMo hown hK hP hD hS 0 rfl rfl 16 (by decide) (hts _ wt4_74) (fun _ h9 => h9) rfl (by decide +kernel) rfl rfl (Nat.le_of_ble_eq_true rfl) dMo_look_171 (fun H locs hP hD hS => ?_)
                have hP : va_P (dC, dI) vwCl (wMo dA mo ft lf hg kk tx pn 1 f9 (((((f9 + 1))))) tl mI mT mS mC mL mB mF mU mX mP mK mD mZ []) H := hP
                have hD : va_D A (wMo dA mo ft lf hg kk tx pn 1 f9 (((((f9 + 1))))) tl mI mT mS mC mL mB mF mU mX mP mK mD mZ []) := hD
                refine lv_aload_n hx hb dMo_look_174 rfl (lv_at hl 0 rfl) ?_
                refine lv_aload_n hx hb dMo_look_175 rfl (lv_at hl 0 rfl) ?_
                refine va_get (D := (dC, dI)) (ci := 7) (v := .int (iI f9)) (C := "MacroReckonerModel") (T := TMo) (N := 23) hx hb hts inMo hown hK hP 0 rfl rfl 17 (by decide) (hts _ wt4_75) (fun _ h9 => h9) rfl dMo_look_176 ?_
                refine lv_iconst (v := iI 1) hx hb dMo_look_179 rfl ?_
                refine iv_iadd hx hb dMo_look_180 ?_
                refine lv_iload_n hx hb dMo_look_181 rfl (lv_at hl 1 rfl) ?_
                refine iv_icmp_ge (tgt := 194) hx hb dMo_look_182 (by decide) ⟨by omega, by omega⟩ ⟨by omega, by omega⟩ (fun hc182 => ?_) (fun hc182 => absurd hc182 (by omega))
                refine lv_iload_n hx hb dMo_look_194 rfl (lv_at hl 1 rfl) ?_
                refine va_put (D := (dC, dI)) (ci := 7) (v := .int (iI e9)) (ty := .int) (C := "MacroReckonerModel") (T := TMo) (N := 23) hx hb hts inMo tyMo tyMo_ok nmMo hown hK hP hD hS 0 rfl rfl 18 (by decide) (hts _ wt4_76) (fun _ h9 => h9) rfl (by decide +kernel) rfl rfl (Nat.le_of_ble_eq_true rfl) dMo_look_195 (fun H locs hP hD hS => ?_)
                have hP : va_P (dC, dI) vwCl (wMo dA mo ft lf hg kk tx pn 1 f9 e9 tl mI mT mS mC mL mB mF mU mX mP mK mD mZ []) H := hP
                have hD : va_D A (wMo dA mo ft lf hg kk tx pn 1 f9 e9 tl mI mT mS mC mL mB mF mU mX mP mK mD mZ []) := hD
                refine lv_goto (tgt := 254) hx hb dMo_look_198 (by decide) ?_
                exact rt_v hx hb hr hlocks hK hS dMo_look_254 (1, e9, f9) hP hD (show lkR (gS tx mX mI) s0 e0 tx f9 1 e9 from by first | exact ⟨hsk, Or.inl ⟨by omega, rfl, by omega⟩⟩ | exact lk_t hsk (by omega) (by omega) hq135 | exact lk_p hsk (by omega) hps (by omega) | exact lk_n hsk (by omega) hns (by omega) hq243.1 hq243.2 | exact lk_s hsk (by omega) (by omega) hnp (by unfold nst; omega) rfl rfl)
              · refine lv_iconst (v := iI 4) hx hb dMo_look_166 rfl ?_
                refine lv_goto (tgt := 171) hx hb dMo_look_167 (by decide) ?_
                refine va_put (D := (dC, dI)) (ci := 7) (v := .int (iI 4)) (ty := .int) (C := "MacroReckonerModel") (T := TMo) (N := 23) hx hb hts inMo tyMo tyMo_ok nmMo hown hK hP hD hS 0 rfl rfl 16 (by decide) (hts _ wt4_74) (fun _ h9 => h9) rfl (by decide +kernel) rfl rfl (Nat.le_of_ble_eq_true rfl) dMo_look_171 (fun H locs hP hD hS => ?_)
                have hP : va_P (dC, dI) vwCl (wMo dA mo ft lf hg kk tx pn 4 f9 (((((f9 + 1))))) tl mI mT mS mC mL mB mF mU mX mP mK mD mZ []) H := hP
                have hD : va_D A (wMo dA mo ft lf hg kk tx pn 4 f9 (((((f9 + 1))))) tl mI mT mS mC mL mB mF mU mX mP mK mD mZ []) := hD
                refine lv_aload_n hx hb dMo_look_174 rfl (lv_at hl 0 rfl) ?_
                refine lv_aload_n hx hb dMo_look_175 rfl (lv_at hl 0 rfl) ?_
                refine va_get (D := (dC, dI)) (ci := 7) (v := .int (iI f9)) (C := "MacroReckonerModel") (T := TMo) (N := 23) hx hb hts inMo hown hK hP 0 rfl rfl 17 (by decide) (hts _ wt4_75) (fun _ h9 => h9) rfl dMo_look_176 ?_
                refine lv_iconst (v := iI 1) hx hb dMo_look_179 rfl ?_
                refine iv_iadd hx hb dMo_look_180 ?_
                refine lv_iload_n hx hb dMo_look_181 rfl (lv_at hl 1 rfl) ?_
                refine iv_icmp_ge (tgt := 194) hx hb dMo_look_182 (by decide) ⟨by omega, by omega⟩ ⟨by omega, by omega⟩ (fun hc182 => absurd hc182 (by omega)) (fun hc182 => ?_)
                refine lv_aload_n hx hb dMo_look_185 rfl (lv_at hl 0 rfl) ?_
                refine va_get (D := (dC, dI)) (ci := 7) (v := .int (iI f9)) (C := "MacroReckonerModel") (T := TMo) (N := 23) hx hb hts inMo hown hK hP 0 rfl rfl 17 (by decide) (hts _ wt4_75) (fun _ h9 => h9) rfl dMo_look_186 ?_
                refine lv_iconst (v := iI 2) hx hb dMo_look_189 rfl ?_
                refine iv_iadd hx hb dMo_look_190 ?_
                refine lv_goto (tgt := 195) hx hb dMo_look_191 (by decide) ?_
                refine va_put (D := (dC, dI)) (ci := 7) (v := .int (iI (f9 + 2))) (ty := .int) (C := "MacroReckonerModel") (T := TMo) (N := 23) hx hb hts inMo tyMo tyMo_ok nmMo hown hK hP hD hS 0 rfl rfl 18 (by decide) (hts _ wt4_76) (fun _ h9 => h9) rfl (by decide +kernel) rfl rfl (Nat.le_of_ble_eq_true rfl) dMo_look_195 (fun H locs hP hD hS => ?_)
                have hP : va_P (dC, dI) vwCl (wMo dA mo ft lf hg kk tx pn 4 f9 (f9 + 2) tl mI mT mS mC mL mB mF mU mX mP mK mD mZ []) H := hP
                have hD : va_D A (wMo dA mo ft lf hg kk tx pn 4 f9 (f9 + 2) tl mI mT mS mC mL mB mF mU mX mP mK mD mZ []) := hD
                refine lv_goto (tgt := 254) hx hb dMo_look_198 (by decide) ?_
                exact rt_v hx hb hr hlocks hK hS dMo_look_254 (4, f9 + 2, f9) hP hD (show lkR (gS tx mX mI) s0 e0 tx f9 4 (f9 + 2) from by first | exact ⟨hsk, Or.inl ⟨by omega, rfl, by omega⟩⟩ | exact lk_t hsk (by omega) (by omega) hq135 | exact lk_p hsk (by omega) hps (by omega) | exact lk_n hsk (by omega) hns (by omega) hq243.1 hq243.2 | exact lk_s hsk (by omega) (by omega) hnp (by unfold nst; omega) rfl rfl)
          · refine lv_aload_n hx hb dMo_look_133 rfl (lv_at hl 0 rfl) ?_
            refine lv_iload_n hx hb dMo_look_134 rfl (lv_at hl 1 rfl) ?_
            refine cv_v (va_runV (C := "MacroReckonerModel") (As := [.int (iI e9)]) (rest := []) ⟨hx, hb, hml, hown, hts⟩ (cMo_lookText l dC dI dA mo ft lf hg kk tx pn tk f9 ((((f9 + 1)))) tl mI mT mS mC mL mB mF mU mX mP mK mD mZ e9 (by omega) (by omega) (by omega) (by intro j x y; exact hch j (by omega) (by omega)) H.size) (cwV 1 hts (gdV wt4_153 wt4_155 ws3_10 wt1_8 wt4_156) rfl rfl rfl ⟨rfl, by decide, by decide, by decide +kernel⟩ ⟨by decide, by decide⟩) (preV (q := ("MacroReckonerModel", TMo, 23)) hK hP hD hS hA XN_ok trivial [0, 1, 2, 3, 4, 5, 6, 7, 8, 9, 10, 11, 12, 13] rfl rfl 0 rfl rfl) rfl rfl hl.1 rfl (lv_room (Nat.le_of_ble_eq_true rfl)) dMo_look_135 ⟨Nat.zero_le _, Nat.zero_le _⟩) hP hD hS hA [0, 1, 2, 3, 4, 5, 6, 7, 8, 9, 10, 11, 12, 13] [] rfl (fun v_ => wMo dA mo ft lf hg kk tx pn v_.1 f9 v_.2 tl mI mT mS mC mL mB mF mU mX mP mK mD mZ []) (fun _ => rfl) ([] : va_W) rfl (fun _ => rfl) [mo, mo + 1, mo + 2, mo + 3, mo + 4, mo + 5, mo + 6, mo + 7, mo + 8, mo + 9, mo + 10, mo + 11, mo + 12, mo + 13] rfl (fun _ => rfl) (fun _ => rfl) (fun u_ H locs hq135 hP hD hS => ?_)
            obtain ⟨tk1_135, tO1_135⟩ := u_
            have hP : va_P (dC, dI) vwCl (wMo dA mo ft lf hg kk tx pn tk1_135 f9 tO1_135 tl mI mT mS mC mL mB mF mU mX mP mK mD mZ []) H := hP
            have hD : va_D A (wMo dA mo ft lf hg kk tx pn tk1_135 f9 tO1_135 tl mI mT mS mC mL mB mF mU mX mP mK mD mZ []) := hD
            have hq135 : (tk1_135 = 3 ∧ txR (gS tx mX mI) f9 e9 (tO1_135 - f9)) ∨ (tk1_135 = 1 ∧ txN (gS tx mX mI) f9 e9 ∧ tO1_135 = e9) := hq135
            rw [he9] at hq135
            refine lv_goto (tgt := 254) hx hb dMo_look_138 (by decide) ?_
            exact rt_v hx hb hr hlocks hK hS dMo_look_254 (tk1_135, tO1_135, f9) hP hD (show lkR (gS tx mX mI) s0 e0 tx f9 tk1_135 tO1_135 from by first | exact ⟨hsk, Or.inl ⟨by omega, rfl, by omega⟩⟩ | exact lk_t hsk (by omega) (by omega) hq135 | exact lk_p hsk (by omega) hps (by omega) | exact lk_n hsk (by omega) hns (by omega) hq243.1 hq243.2 | exact lk_s hsk (by omega) (by omega) hnp (by unfold nst; omega) rfl rfl)
        · refine lv_aload_n hx hb dMo_look_73 rfl (lv_at hl 0 rfl) ?_
          refine lv_dup hx hb dMo_look_74 rfl ?_
          refine va_get (D := (dC, dI)) (ci := 7) (v := .int (iI f9)) (C := "MacroReckonerModel") (T := TMo) (N := 23) hx hb hts inMo hown hK hP 0 rfl rfl 17 (by decide) (hts _ wt4_75) (fun _ h9 => h9) rfl dMo_look_75 ?_
          refine lv_iconst (v := iI 1) hx hb dMo_look_78 rfl ?_
          refine iv_iadd hx hb dMo_look_79 ?_
          refine va_put (D := (dC, dI)) (ci := 7) (v := .int (iI (f9 + 1))) (ty := .int) (C := "MacroReckonerModel") (T := TMo) (N := 23) hx hb hts inMo tyMo tyMo_ok nmMo hown hK hP hD hS 0 rfl rfl 17 (by decide) (hts _ wt4_75) (fun _ h9 => h9) rfl (by decide +kernel) rfl rfl (Nat.le_of_ble_eq_true rfl) dMo_look_80 (fun H locs hP hD hS => ?_)
          have hP : va_P (dC, dI) vwCl (wMo dA mo ft lf hg kk tx pn tk (f9 + 1) tO tl mI mT mS mC mL mB mF mU mX mP mK mD mZ []) H := hP
          have hD : va_D A (wMo dA mo ft lf hg kk tx pn tk (f9 + 1) tO tl mI mT mS mC mL mB mF mU mX mP mK mD mZ []) := hD
          refine lv_goto (tgt := 52) hx hb dMo_look_83 (by decide) ?_
          exact ih52 (f9 + 1) e9 H locs ls (by exact he9) (by omega) (by intro j x y; rcases (show j < f9 ∨ j = f9 by omega) with z | z; exact hsp j x z; rw [z, ← hq65]; omega) (by omega) hP hD hS (lv_sub hl [0, 1] rfl)
  refine iv_if_le (tgt := 21) hx hb dMo_look_4 (by decide) ⟨by omega, by omega⟩ (fun hc4 => ?_) (fun hc4 => ?_)
  · refine lv_aload_n hx hb dMo_look_21 rfl (lv_at hl 0 rfl) ?_
    refine va_get (D := (dC, dI)) (ci := 7) (v := .int (iI lf)) (C := "MacroReckonerModel") (T := TMo) (N := 23) hx hb hts inMo hown hK hP 0 rfl rfl 1 (by decide) (hts _ wt4_59) (fun _ h9 => h9) rfl dMo_look_22 ?_
    refine lv_istore_n (lv' := [(1, .int (iI lf)), (0, .ref mo)]) hx hb dMo_look_25 rfl hl (by decide) rfl (fun ls hl => ?_)
    refine lv_aload_n hx hb dMo_look_26 rfl (lv_at hl 1 rfl) ?_
    refine lv_aload_n hx hb dMo_look_27 rfl (lv_at hl 1 rfl) ?_
    refine va_get (D := (dC, dI)) (ci := 7) (v := .int (iI tx)) (C := "MacroReckonerModel") (T := TMo) (N := 23) hx hb hts inMo hown hK hP 0 rfl rfl 10 (by decide) (hts _ wt4_68) (fun _ h9 => h9) rfl dMo_look_28 ?_
    refine iv_if_le (tgt := 48) hx hb dMo_look_31 (by decide) ⟨by omega, by omega⟩ (fun hc31 => ?_) (fun hc31 => absurd hc31 (by omega))
    refine lv_iconst (v := iI 0) hx hb dMo_look_48 rfl ?_
    refine va_put (D := (dC, dI)) (ci := 7) (v := .int (iI 0)) (ty := .int) (C := "MacroReckonerModel") (T := TMo) (N := 23) hx hb hts inMo tyMo tyMo_ok nmMo hown hK hP hD hS 0 rfl rfl 17 (by decide) (hts _ wt4_75) (fun _ h9 => h9) rfl (by decide +kernel) rfl rfl (Nat.le_of_ble_eq_true rfl) dMo_look_49 (fun H locs hP hD hS => ?_)
    have hP : va_P (dC, dI) vwCl (wMo dA mo ft lf hg kk tx pn tk 0 tO tl mI mT mS mC mL mB mF mU mX mP mK mD mZ []) H := hP
    have hD : va_D A (wMo dA mo ft lf hg kk tx pn tk 0 tO tl mI mT mS mC mL mB mF mU mX mP mK mD mZ []) := hD
    exact J52 _ 0 lf H locs ls (by omega) (by omega) (by intro j x y; omega) (Nat.lt_succ_self _) hP hD hS (lv_sub hl [1, 0] rfl)
  · refine lv_aload_n hx hb dMo_look_7 rfl (lv_at hl 0 rfl) ?_
    refine va_get (D := (dC, dI)) (ci := 7) (v := .ref (mo + 8)) (C := "MacroReckonerModel") (T := TMo) (N := 23) hx hb hts inMo hown hK hP 0 rfl rfl 12 (by decide) (hts _ wt4_70) (fun _ h9 => h9) rfl dMo_look_8 ?_
    refine lv_aload_n hx hb dMo_look_11 rfl (lv_at hl 0 rfl) ?_
    refine va_get (D := (dC, dI)) (ci := 7) (v := .int (iI tx)) (C := "MacroReckonerModel") (T := TMo) (N := 23) hx hb hts inMo hown hK hP 0 rfl rfl 10 (by decide) (hts _ wt4_68) (fun _ h9 => h9) rfl dMo_look_12 ?_
    refine lv_iconst (v := iI 1) hx hb dMo_look_15 rfl ?_
    refine iv_isub hx hb dMo_look_16 ?_
    refine iv_iald hx hb hK hP 8 0 rfl rfl (by decide) dMo_look_17 (by omega) (by omega) ?_
    refine lv_goto (tgt := 25) hx hb dMo_look_18 (by decide) ?_
    refine lv_istore_n (lv' := [(1, .int (iI (mU (tx - 1)))), (0, .ref mo)]) hx hb dMo_look_25 rfl hl (by decide) rfl (fun ls hl => ?_)
    refine lv_aload_n hx hb dMo_look_26 rfl (lv_at hl 1 rfl) ?_
    refine lv_aload_n hx hb dMo_look_27 rfl (lv_at hl 1 rfl) ?_
    refine va_get (D := (dC, dI)) (ci := 7) (v := .int (iI tx)) (C := "MacroReckonerModel") (T := TMo) (N := 23) hx hb hts inMo hown hK hP 0 rfl rfl 10 (by decide) (hts _ wt4_68) (fun _ h9 => h9) rfl dMo_look_28 ?_
    refine iv_if_le (tgt := 48) hx hb dMo_look_31 (by decide) ⟨by omega, by omega⟩ (fun hc31 => absurd hc31 (by omega)) (fun hc31 => ?_)
    refine lv_aload_n hx hb dMo_look_34 rfl (lv_at hl 1 rfl) ?_
    refine va_get (D := (dC, dI)) (ci := 7) (v := .ref (mo + 7)) (C := "MacroReckonerModel") (T := TMo) (N := 23) hx hb hts inMo hown hK hP 0 rfl rfl 11 (by decide) (hts _ wt4_69) (fun _ h9 => h9) rfl dMo_look_35 ?_
    refine lv_aload_n hx hb dMo_look_38 rfl (lv_at hl 1 rfl) ?_
    refine va_get (D := (dC, dI)) (ci := 7) (v := .int (iI tx)) (C := "MacroReckonerModel") (T := TMo) (N := 23) hx hb hts inMo hown hK hP 0 rfl rfl 10 (by decide) (hts _ wt4_68) (fun _ h9 => h9) rfl dMo_look_39 ?_
    refine lv_iconst (v := iI 1) hx hb dMo_look_42 rfl ?_
    refine iv_isub hx hb dMo_look_43 ?_
    refine iv_iald hx hb hK hP 7 0 rfl rfl (by decide) dMo_look_44 (by omega) (by omega) ?_
    refine lv_goto (tgt := 49) hx hb dMo_look_45 (by decide) ?_
    refine va_put (D := (dC, dI)) (ci := 7) (v := .int (iI (mF (tx - 1)))) (ty := .int) (C := "MacroReckonerModel") (T := TMo) (N := 23) hx hb hts inMo tyMo tyMo_ok nmMo hown hK hP hD hS 0 rfl rfl 17 (by decide) (hts _ wt4_75) (fun _ h9 => h9) rfl (by decide +kernel) rfl rfl (Nat.le_of_ble_eq_true rfl) dMo_look_49 (fun H locs hP hD hS => ?_)
    have hP : va_P (dC, dI) vwCl (wMo dA mo ft lf hg kk tx pn tk (mF (tx - 1)) tO tl mI mT mS mC mL mB mF mU mX mP mK mD mZ []) H := hP
    have hD : va_D A (wMo dA mo ft lf hg kk tx pn tk (mF (tx - 1)) tO tl mI mT mS mC mL mB mF mU mX mP mK mD mZ []) := hD
    exact J52 _ (mF (tx - 1)) (mU (tx - 1)) H locs ls (by omega) (by omega) (by intro j x y; omega) (Nat.lt_succ_self _) hP hD hS (lv_sub hl [1, 0] rfl)

theorem dMo_isCommand_0 : decode prog_9_method_37_code 0 = .ok (.aload_n 0, 1) := by decide +kernel
theorem dMo_isCommand_1 : decode prog_9_method_37_code 1 = .ok (.invokevirtual 151, 3) := by decide +kernel
theorem dMo_isCommand_4 : decode prog_9_method_37_code 4 = .ok (.aload_n 0, 1) := by decide +kernel
theorem dMo_isCommand_5 : decode prog_9_method_37_code 5 = .ok (.getfield 135, 3) := by decide +kernel
theorem dMo_isCommand_8 : decode prog_9_method_37_code 8 = .ok (.iconst 1, 1) := by decide +kernel
theorem dMo_isCommand_9 : decode prog_9_method_37_code 9 = .ok (.if_icmp .gt 18, 3) := by decide +kernel
theorem dMo_isCommand_12 : decode prog_9_method_37_code 12 = .ok (.aload_n 0, 1) := by decide +kernel
theorem dMo_isCommand_13 : decode prog_9_method_37_code 13 = .ok (.getfield 135, 3) := by decide +kernel
theorem dMo_isCommand_16 : decode prog_9_method_37_code 16 = .ok (.iconst 1, 1) := by decide +kernel
theorem dMo_isCommand_17 : decode prog_9_method_37_code 17 = .ok (.if_icmp .ne 14, 3) := by decide +kernel
theorem dMo_isCommand_20 : decode prog_9_method_37_code 20 = .ok (.aload_n 0, 1) := by decide +kernel
theorem dMo_isCommand_21 : decode prog_9_method_37_code 21 = .ok (.getfield 120, 3) := by decide +kernel
theorem dMo_isCommand_24 : decode prog_9_method_37_code 24 = .ok (.ifCond .le 7, 3) := by decide +kernel
theorem dMo_isCommand_27 : decode prog_9_method_37_code 27 = .ok (.iconst 1, 1) := by decide +kernel
theorem dMo_isCommand_28 : decode prog_9_method_37_code 28 = .ok (.goto 4, 3) := by decide +kernel
theorem dMo_isCommand_31 : decode prog_9_method_37_code 31 = .ok (.iconst 0, 1) := by decide +kernel
theorem dMo_isCommand_32 : decode prog_9_method_37_code 32 = .ok (.ireturn, 1) := by decide +kernel
abbrev qMo_isCommand (dC : Nat → ClassId) (dI : Nat → Nat → Nat) (dA : Nat → ClassId) (mo : Nat) (ft : Int) (lf : Int) (hg : Int) (kk : Int) (tx : Int) (pn : Int) (tk : Int) (fm : Int) (tO : Int) (tl : Int) (mI : Int → Int) (mT : Int → Int) (mS : Int → Int) (mC : Int → Int) (mL : Int → Int) (mB : Int → Int) (mF : Int → Int) (mU : Int → Int) (mX : Int → Int) (mP : Int → Int) (mK : Int → Int) (mD : Int → Int) (mZ : Int → Int) (s0 : Int) (e0 : Int) (A : Nat → Prop) : Array Value → State → Outcome → State → Prop := QI (dC, dI) vwCl (tyA dA) (fun (r : Int) (v_ : Int × Int × Int) => lkR (gS tx mX mI) s0 e0 tx v_.2.2 v_.1 v_.2.1 ∧ ((r = 1 ∧ (1 < v_.1 ∨ (v_.1 = 1 ∧ 0 < tx))) ∨ (r = 0 ∧ ¬ (1 < v_.1 ∨ (v_.1 = 1 ∧ 0 < tx))))) (fun (v_ : Int × Int × Int) => wMo dA mo ft lf hg kk tx pn v_.1 v_.2.2 v_.2.1 tl mI mT mS mC mL mB mF mU mX mP mK mD mZ []) A
abbrev rmMo_isCommand : Room := { frames := 3, cells := 0, slots := 0, locals := 66 }
set_option maxRecDepth 100000 in
set_option maxHeartbeats 1000000 in
theorem cMo_isCommand (l : Launch) (dC : Nat → ClassId) (dI : Nat → Nat → Nat) (dA : Nat → ClassId) (mo : Nat) (ft : Int) (lf : Int) (hg : Int) (kk : Int) (tx : Int) (pn : Int) (tk : Int) (fm : Int) (tO : Int) (tl : Int) (mI : Int → Int) (mT : Int → Int) (mS : Int → Int) (mC : Int → Int) (mL : Int → Int) (mB : Int → Int) (mF : Int → Int) (mU : Int → Int) (mX : Int → Int) (mP : Int → Int) (mK : Int → Int) (mD : Int → Int) (mZ : Int → Int) (s0 : Int) (e0 : Int) (hsr : srJ tx lf mF mU s0 e0) (hch : ∀ j, s0 ≤ j → j < e0 → 32 ≤ gS tx mX mI j ∧ gS tx mX mI j ≤ 126) (sz : Nat) : Met l yMo_isCommand wsMo_isCommand rmMo_isCommand (PC (dC, dI) vwCl (tyA dA) XN [.ref mo] (wMo dA mo ft lf hg kk tx pn tk fm tO tl mI mT mS mC mL mB mF mU mX mP mK mD mZ []) sz) (qMo_isCommand dC dI dA mo ft lf hg kk tx pn tk fm tO tl mI mT mS mC mL mB mF mU mX mP mK mD mZ s0 e0 (va_A (wMo dA mo ft lf hg kk tx pn tk fm tO tl mI mT mS mC mL mB mF mU mX mP mK mD mZ []) sz)) 0 0 (va_A (wMo dA mo ft lf hg kk tx pn tk fm tO tl mI mT mS mC mL mB mF mU mX mP mK mD mZ []) sz) := by
  refine met_of (cc := prog_9_method_37_code) (maxL := 1) (ret := (some .boolean)) (Qc := qMo_isCommand dC dI dA mo ft lf hg kk tx pn tk fm tO tl mI mT mS mC mL mB mF mU mX mP mK mD mZ s0 e0) XN_ok (by decide) rfl (Nat.le_of_ble_eq_true rfl) ?_
  intro p e s m below meth c ls A hx hb hr hml hown hts hlocks hnm hK hP hD hA hX hS hl
  have hl : lv_has ls 1 [(0, .ref mo)] := hl
  have hown : s.vm.findClass "MacroReckonerModel" = some m.cls := hown
  obtain ⟨H, hH⟩ : ∃ H : Heap, H = s.heap := ⟨_, rfl⟩
  obtain ⟨locs, hlo⟩ : ∃ L : List Loc, L = [] := ⟨_, rfl⟩
  have hP : va_P (dC, dI) vwCl (wMo dA mo ft lf hg kk tx pn tk fm tO tl mI mT mS mC mL mB mF mU mX mP mK mD mZ []) H := hH ▸ hP
  have hS : va_S A s.heap H locs := by rw [hH, hlo]; exact hS
  suffices hgo : W p l e rmMo_isCommand s m [.ref mo].toArray below meth c H locs 0 0 (MQ below (qMo_isCommand dC dI dA mo ft lf hg kk tx pn tk fm tO tl mI mT mS mC mL mB mF mU mX mP mK mD mZ s0 e0 A) [.ref mo].toArray s 0 0 A) (F0 m 0 ls []) by rw [hH, hlo] at hgo; exact hgo
  clear hH hlo
  refine lv_aload_n hx hb dMo_isCommand_0 rfl (lv_at hl 0 rfl) ?_
  refine cv_v (va_runV (C := "MacroReckonerModel") (As := []) (rest := []) ⟨hx, hb, hml, hown, hts⟩ (cMo_look l dC dI dA mo ft lf hg kk tx pn tk fm tO tl mI mT mS mC mL mB mF mU mX mP mK mD mZ s0 e0 (by exact hsr) (by exact hch) H.size) (cwV 0 hts (gdV wt4_145 wt4_147 ws3_8 wt1_8 wt4_148) rfl rfl rfl ⟨rfl, by decide, by decide, by decide +kernel⟩ ⟨by decide, by decide⟩) (preV (q := ("MacroReckonerModel", TMo, 23)) hK hP hD hS hA XN_ok trivial [0, 1, 2, 3, 4, 5, 6, 7, 8, 9, 10, 11, 12, 13] rfl rfl 0 rfl rfl) rfl rfl hl.1 rfl (lv_room (Nat.le_of_ble_eq_true rfl)) dMo_isCommand_1 ⟨Nat.zero_le _, Nat.zero_le _⟩) hP hD hS hA [0, 1, 2, 3, 4, 5, 6, 7, 8, 9, 10, 11, 12, 13] [] rfl (fun v_ => wMo dA mo ft lf hg kk tx pn v_.1 v_.2.2 v_.2.1 tl mI mT mS mC mL mB mF mU mX mP mK mD mZ []) (fun _ => rfl) ([] : va_W) rfl (fun _ => rfl) [mo, mo + 1, mo + 2, mo + 3, mo + 4, mo + 5, mo + 6, mo + 7, mo + 8, mo + 9, mo + 10, mo + 11, mo + 12, mo + 13] rfl (fun _ => rfl) (fun _ => rfl) (fun u_ H locs hq1 hP hD hS => ?_)
  obtain ⟨tk7, tO7, fm7⟩ := u_
  have hP : va_P (dC, dI) vwCl (wMo dA mo ft lf hg kk tx pn tk7 fm7 tO7 tl mI mT mS mC mL mB mF mU mX mP mK mD mZ []) H := hP
  have hD : va_D A (wMo dA mo ft lf hg kk tx pn tk7 fm7 tO7 tl mI mT mS mC mL mB mF mU mX mP mK mD mZ []) := hD
  have hq1 : lkR (gS tx mX mI) s0 e0 tx fm7 tk7 tO7 := hq1
  have htk : 0 ≤ tk7 ∧ tk7 ≤ 5 := by rcases hq1.2 with ⟨-, z, -⟩ | ⟨-, -, -, c1, r1, l1, u1, -, z⟩; omega; rcases z with ⟨z, -⟩ | ⟨z, -⟩ | ⟨z, -⟩ | ⟨z, -⟩ | ⟨z, -⟩ <;> omega
  have htx : 0 ≤ tx ∧ tx ≤ 8 := by have h := hsr; unfold srJ at h; omega
  refine lv_aload_n hx hb dMo_isCommand_4 rfl (lv_at hl 0 rfl) ?_
  refine va_get (D := (dC, dI)) (ci := 7) (v := .int (iI tk7)) (C := "MacroReckonerModel") (T := TMo) (N := 23) hx hb hts inMo hown hK hP 0 rfl rfl 16 (by decide) (hts _ wt4_74) (fun _ h9 => h9) rfl dMo_isCommand_5 ?_
  refine lv_iconst (v := iI 1) hx hb dMo_isCommand_8 rfl ?_
  refine iv_icmp_gt (tgt := 27) hx hb dMo_isCommand_9 (by decide) ⟨by omega, by omega⟩ ⟨by decide, by decide⟩ (fun hc9 => ?_) (fun hc9 => ?_)
  · refine lv_iconst (v := iI 1) hx hb dMo_isCommand_27 rfl ?_
    refine lv_goto (tgt := 32) hx hb dMo_isCommand_28 (by decide) ?_
    exact rt_z hx hb hr hlocks hK hS dMo_isCommand_32 (nrw_bool (by omega)) (tk7, tO7, fm7) hP hD (show lkR (gS tx mX mI) s0 e0 tx fm7 tk7 tO7 ∧ ((1 = 1 ∧ (1 < tk7 ∨ (tk7 = 1 ∧ 0 < tx))) ∨ (1 = 0 ∧ ¬ (1 < tk7 ∨ (tk7 = 1 ∧ 0 < tx)))) from by exact ⟨hq1, by omega⟩)
  · refine lv_aload_n hx hb dMo_isCommand_12 rfl (lv_at hl 0 rfl) ?_
    refine va_get (D := (dC, dI)) (ci := 7) (v := .int (iI tk7)) (C := "MacroReckonerModel") (T := TMo) (N := 23) hx hb hts inMo hown hK hP 0 rfl rfl 16 (by decide) (hts _ wt4_74) (fun _ h9 => h9) rfl dMo_isCommand_13 ?_
    refine lv_iconst (v := iI 1) hx hb dMo_isCommand_16 rfl ?_
    refine iv_icmp_ne (tgt := 31) hx hb dMo_isCommand_17 (by decide) ⟨by omega, by omega⟩ ⟨by decide, by decide⟩ (fun hc17 => ?_) (fun hc17 => ?_)
    · refine lv_iconst (v := iI 0) hx hb dMo_isCommand_31 rfl ?_
      exact rt_z hx hb hr hlocks hK hS dMo_isCommand_32 (nrw_bool (by omega)) (tk7, tO7, fm7) hP hD (show lkR (gS tx mX mI) s0 e0 tx fm7 tk7 tO7 ∧ ((0 = 1 ∧ (1 < tk7 ∨ (tk7 = 1 ∧ 0 < tx))) ∨ (0 = 0 ∧ ¬ (1 < tk7 ∨ (tk7 = 1 ∧ 0 < tx)))) from by exact ⟨hq1, by omega⟩)
    · refine lv_aload_n hx hb dMo_isCommand_20 rfl (lv_at hl 0 rfl) ?_
      refine va_get (D := (dC, dI)) (ci := 7) (v := .int (iI tx)) (C := "MacroReckonerModel") (T := TMo) (N := 23) hx hb hts inMo hown hK hP 0 rfl rfl 10 (by decide) (hts _ wt4_68) (fun _ h9 => h9) rfl dMo_isCommand_21 ?_
      refine iv_if_le (tgt := 31) hx hb dMo_isCommand_24 (by decide) ⟨by omega, by omega⟩ (fun hc24 => ?_) (fun hc24 => ?_)
      · refine lv_iconst (v := iI 0) hx hb dMo_isCommand_31 rfl ?_
        exact rt_z hx hb hr hlocks hK hS dMo_isCommand_32 (nrw_bool (by omega)) (tk7, tO7, fm7) hP hD (show lkR (gS tx mX mI) s0 e0 tx fm7 tk7 tO7 ∧ ((0 = 1 ∧ (1 < tk7 ∨ (tk7 = 1 ∧ 0 < tx))) ∨ (0 = 0 ∧ ¬ (1 < tk7 ∨ (tk7 = 1 ∧ 0 < tx)))) from by exact ⟨hq1, by omega⟩)
      · refine lv_iconst (v := iI 1) hx hb dMo_isCommand_27 rfl ?_
        refine lv_goto (tgt := 32) hx hb dMo_isCommand_28 (by decide) ?_
        exact rt_z hx hb hr hlocks hK hS dMo_isCommand_32 (nrw_bool (by omega)) (tk7, tO7, fm7) hP hD (show lkR (gS tx mX mI) s0 e0 tx fm7 tk7 tO7 ∧ ((1 = 1 ∧ (1 < tk7 ∨ (tk7 = 1 ∧ 0 < tx))) ∨ (1 = 0 ∧ ¬ (1 < tk7 ∨ (tk7 = 1 ∧ 0 < tx)))) from by exact ⟨hq1, by omega⟩)
