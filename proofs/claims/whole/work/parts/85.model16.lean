theorem dMo_command_0 : decode prog_9_method_52_code 0 = .ok (.aload_n 0, 1) := by decide +kernel
theorem dMo_command_1 : decode prog_9_method_52_code 1 = .ok (.getfield 135, 3) := by decide +kernel
theorem dMo_command_4 : decode prog_9_method_52_code 4 = .ok (.istore_n 1, 1) := by decide +kernel
theorem dMo_command_5 : decode prog_9_method_52_code 5 = .ok (.aload_n 0, 1) := by decide +kernel
theorem dMo_command_6 : decode prog_9_method_52_code 6 = .ok (.invokevirtual 217, 3) := by decide +kernel
theorem dMo_command_9 : decode prog_9_method_52_code 9 = .ok (.iload_n 1, 1) := by decide +kernel
theorem dMo_command_10 : decode prog_9_method_52_code 10 = .ok (.iconst 2, 1) := by decide +kernel
theorem dMo_command_11 : decode prog_9_method_52_code 11 = .ok (.if_icmp .ne 10, 3) := by decide +kernel
theorem dMo_command_14 : decode prog_9_method_52_code 14 = .ok (.aload_n 0, 1) := by decide +kernel
theorem dMo_command_15 : decode prog_9_method_52_code 15 = .ok (.invokevirtual 220, 3) := by decide +kernel
theorem dMo_command_18 : decode prog_9_method_52_code 18 = .ok (.goto 58, 3) := by decide +kernel
theorem dMo_command_21 : decode prog_9_method_52_code 21 = .ok (.iload_n 1, 1) := by decide +kernel
theorem dMo_command_22 : decode prog_9_method_52_code 22 = .ok (.iconst 3, 1) := by decide +kernel
theorem dMo_command_23 : decode prog_9_method_52_code 23 = .ok (.if_icmp .ne 10, 3) := by decide +kernel
theorem dMo_command_26 : decode prog_9_method_52_code 26 = .ok (.aload_n 0, 1) := by decide +kernel
theorem dMo_command_27 : decode prog_9_method_52_code 27 = .ok (.invokevirtual 224, 3) := by decide +kernel
theorem dMo_command_30 : decode prog_9_method_52_code 30 = .ok (.goto 46, 3) := by decide +kernel
theorem dMo_command_33 : decode prog_9_method_52_code 33 = .ok (.iload_n 1, 1) := by decide +kernel
theorem dMo_command_34 : decode prog_9_method_52_code 34 = .ok (.iconst 4, 1) := by decide +kernel
theorem dMo_command_35 : decode prog_9_method_52_code 35 = .ok (.if_icmp .ne 22, 3) := by decide +kernel
theorem dMo_command_38 : decode prog_9_method_52_code 38 = .ok (.aload_n 0, 1) := by decide +kernel
theorem dMo_command_39 : decode prog_9_method_52_code 39 = .ok (.aload_n 0, 1) := by decide +kernel
theorem dMo_command_40 : decode prog_9_method_52_code 40 = .ok (.getfield 41, 3) := by decide +kernel
theorem dMo_command_43 : decode prog_9_method_52_code 43 = .ok (.iconst 0, 1) := by decide +kernel
theorem dMo_command_44 : decode prog_9_method_52_code 44 = .ok (.iaload, 1) := by decide +kernel
theorem dMo_command_45 : decode prog_9_method_52_code 45 = .ok (.aload_n 0, 1) := by decide +kernel
theorem dMo_command_46 : decode prog_9_method_52_code 46 = .ok (.getfield 41, 3) := by decide +kernel
theorem dMo_command_49 : decode prog_9_method_52_code 49 = .ok (.iconst 1, 1) := by decide +kernel
theorem dMo_command_50 : decode prog_9_method_52_code 50 = .ok (.iaload, 1) := by decide +kernel
theorem dMo_command_51 : decode prog_9_method_52_code 51 = .ok (.invokevirtual 227, 3) := by decide +kernel
theorem dMo_command_54 : decode prog_9_method_52_code 54 = .ok (.goto 22, 3) := by decide +kernel
theorem dMo_command_57 : decode prog_9_method_52_code 57 = .ok (.iload_n 1, 1) := by decide +kernel
theorem dMo_command_58 : decode prog_9_method_52_code 58 = .ok (.iconst 5, 1) := by decide +kernel
theorem dMo_command_59 : decode prog_9_method_52_code 59 = .ok (.if_icmp .ne 16, 3) := by decide +kernel
theorem dMo_command_62 : decode prog_9_method_52_code 62 = .ok (.aload_n 0, 1) := by decide +kernel
theorem dMo_command_63 : decode prog_9_method_52_code 63 = .ok (.aload_n 0, 1) := by decide +kernel
theorem dMo_command_64 : decode prog_9_method_52_code 64 = .ok (.getfield 41, 3) := by decide +kernel
theorem dMo_command_67 : decode prog_9_method_52_code 67 = .ok (.iconst 0, 1) := by decide +kernel
theorem dMo_command_68 : decode prog_9_method_52_code 68 = .ok (.iaload, 1) := by decide +kernel
theorem dMo_command_69 : decode prog_9_method_52_code 69 = .ok (.invokevirtual 230, 3) := by decide +kernel
theorem dMo_command_72 : decode prog_9_method_52_code 72 = .ok (.goto 4, 3) := by decide +kernel
theorem dMo_command_75 : decode prog_9_method_52_code 75 = .ok (.iconst (-1), 1) := by decide +kernel
theorem dMo_command_76 : decode prog_9_method_52_code 76 = .ok (.istore_n 2, 1) := by decide +kernel
theorem dMo_command_77 : decode prog_9_method_52_code 77 = .ok (.aload_n 0, 1) := by decide +kernel
theorem dMo_command_78 : decode prog_9_method_52_code 78 = .ok (.iload_n 2, 1) := by decide +kernel
theorem dMo_command_79 : decode prog_9_method_52_code 79 = .ok (.ifCond .ge 7, 3) := by decide +kernel
theorem dMo_command_82 : decode prog_9_method_52_code 82 = .ok (.iconst 0, 1) := by decide +kernel
theorem dMo_command_83 : decode prog_9_method_52_code 83 = .ok (.goto 7, 3) := by decide +kernel
theorem dMo_command_86 : decode prog_9_method_52_code 86 = .ok (.aload_n 0, 1) := by decide +kernel
theorem dMo_command_87 : decode prog_9_method_52_code 87 = .ok (.getfield 120, 3) := by decide +kernel
theorem dMo_command_90 : decode prog_9_method_52_code 90 = .ok (.putfield 120, 3) := by decide +kernel
theorem dMo_command_93 : decode prog_9_method_52_code 93 = .ok (.iload_n 2, 1) := by decide +kernel
theorem dMo_command_94 : decode prog_9_method_52_code 94 = .ok (.ireturn, 1) := by decide +kernel
abbrev qMo_command (dC : Nat → ClassId) (dI : Nat → Nat → Nat) (dA : Nat → ClassId) (mo : Nat) (ft : Int) (lf : Int) (hg : Int) (kk : Int) (tx : Int) (pn : Int) (tk : Int) (fm : Int) (tO : Int) (tl : Int) (mI : Int → Int) (mT : Int → Int) (mS : Int → Int) (mC : Int → Int) (mL : Int → Int) (mB : Int → Int) (mF : Int → Int) (mU : Int → Int) (mX : Int → Int) (mP : Int → Int) (mK : Int → Int) (mD : Int → Int) (mZ : Int → Int) (st : AS) (s0 : Int) (e0 : Int) (A : Nat → Prop) : Array Value → State → Outcome → State → Prop := QI (dC, dI) vwCl (tyA dA) (fun (r : Int) (v_ : (Int → Int) × (Int → Int) × (Int → Int) × (Int → Int) × (Int → Int) × (Int → Int) × (Int → Int) × (Int → Int) × (Int → Int) × (Int → Int) × Int × (Int → Int) × Int × Int × Int × (Int → Int) × Int × (Int → Int) × Int) => r = (stpA st).1 ∧ MA v_.1 v_.2.1 v_.2.2.1 v_.2.2.2.1 v_.2.2.2.2.1 v_.2.2.2.2.2.2.2.2.2.2.2.2.2.1 v_.2.2.2.2.2.2.2.2.2.2.2.2.2.2.1 v_.2.2.2.2.2.2.2.1 v_.2.2.2.2.2.2.2.2.1 v_.2.2.2.2.2.2.2.2.2.1 v_.2.2.2.2.2.2.2.2.2.2.1 v_.2.2.2.2.2.2.2.2.2.2.2.1 v_.2.2.2.2.2.2.2.2.2.2.2.2.1 (stpA st).2 ∧ MI v_.2.2.2.2.2.2.2.2.2.2.2.2.2.2.2.2.2.1 v_.2.2.2.2.2.2.2.2.2.2.2.2.2.2.2.2.2.2 (stpA st).2) (fun (v_ : (Int → Int) × (Int → Int) × (Int → Int) × (Int → Int) × (Int → Int) × (Int → Int) × (Int → Int) × (Int → Int) × (Int → Int) × (Int → Int) × Int × (Int → Int) × Int × Int × Int × (Int → Int) × Int × (Int → Int) × Int) => wMo dA mo ft v_.2.2.2.2.2.2.2.2.2.2.2.2.2.2.2.2.2.2 v_.2.2.2.2.2.2.2.2.2.2.2.2.2.1 v_.2.2.2.2.2.2.2.2.2.2.2.2.2.2.1 v_.2.2.2.2.2.2.2.2.2.2.1 v_.2.2.2.2.2.2.2.2.2.2.2.2.1 tk fm tO v_.2.2.2.2.2.2.2.2.2.2.2.2.2.2.2.2.1 v_.2.2.2.2.2.2.2.2.2.2.2.2.2.2.2.2.2.1 v_.1 v_.2.1 v_.2.2.1 v_.2.2.2.1 v_.2.2.2.2.1 v_.2.2.2.2.2.2.2.1 v_.2.2.2.2.2.2.2.2.1 v_.2.2.2.2.2.2.2.2.2.1 v_.2.2.2.2.2.2.2.2.2.2.2.1 v_.2.2.2.2.2.2.2.2.2.2.2.2.2.2.2.1 v_.2.2.2.2.2.1 v_.2.2.2.2.2.2.1 []) A
abbrev rmMo_command : Room := { frames := 6, cells := 0, slots := 0, locals := 143 }
set_option maxRecDepth 100000 in
set_option maxHeartbeats 1000000 in
theorem cMo_command (l : Launch) (dC : Nat → ClassId) (dI : Nat → Nat → Nat) (dA : Nat → ClassId) (mo : Nat) (ft : Int) (lf : Int) (hg : Int) (kk : Int) (tx : Int) (pn : Int) (tk : Int) (fm : Int) (tO : Int) (tl : Int) (mI : Int → Int) (mT : Int → Int) (mS : Int → Int) (mC : Int → Int) (mL : Int → Int) (mB : Int → Int) (mF : Int → Int) (mU : Int → Int) (mX : Int → Int) (mP : Int → Int) (mK : Int → Int) (mD : Int → Int) (mZ : Int → Int) (st : AS) (s0 : Int) (e0 : Int) (hMA : MA mT mS mC mL mB hg kk mF mU mX tx mP pn st) (hMI : MI mI lf st) (hsr : srJ tx lf mF mU s0 e0) (hlk : lkR (gS tx mX mI) s0 e0 tx fm tk tO) (hcm : 1 < tk ∨ (tk = 1 ∧ 0 < tx)) (sz : Nat) : Met l yMo_command wsMo_command rmMo_command (PC (dC, dI) vwCl (tyA dA) XN [.ref mo] (wMo dA mo ft lf hg kk tx pn tk fm tO tl mI mT mS mC mL mB mF mU mX mP mK mD mZ []) sz) (qMo_command dC dI dA mo ft lf hg kk tx pn tk fm tO tl mI mT mS mC mL mB mF mU mX mP mK mD mZ st s0 e0 (va_A (wMo dA mo ft lf hg kk tx pn tk fm tO tl mI mT mS mC mL mB mF mU mX mP mK mD mZ []) sz)) 0 0 (va_A (wMo dA mo ft lf hg kk tx pn tk fm tO tl mI mT mS mC mL mB mF mU mX mP mK mD mZ []) sz) := by
  refine met_of (cc := prog_9_method_52_code) (maxL := 3) (ret := (some .int)) (Qc := qMo_command dC dI dA mo ft lf hg kk tx pn tk fm tO tl mI mT mS mC mL mB mF mU mX mP mK mD mZ st s0 e0) XN_ok (by decide) rfl (Nat.le_of_ble_eq_true rfl) ?_
  intro p e s m below meth c ls A hx hb hr hml hown hts hlocks hnm hK hP hD hA hX hS hl
  have hl : lv_has ls 3 [(0, .ref mo)] := hl
  have hown : s.vm.findClass "MacroReckonerModel" = some m.cls := hown
  obtain ⟨H, hH⟩ : ∃ H : Heap, H = s.heap := ⟨_, rfl⟩
  obtain ⟨locs, hlo⟩ : ∃ L : List Loc, L = [] := ⟨_, rfl⟩
  have hP : va_P (dC, dI) vwCl (wMo dA mo ft lf hg kk tx pn tk fm tO tl mI mT mS mC mL mB mF mU mX mP mK mD mZ []) H := hH ▸ hP
  have hS : va_S A s.heap H locs := by rw [hH, hlo]; exact hS
  suffices hgo : W p l e rmMo_command s m [.ref mo].toArray below meth c H locs 0 0 (MQ below (qMo_command dC dI dA mo ft lf hg kk tx pn tk fm tO tl mI mT mS mC mL mB mF mU mX mP mK mD mZ st s0 e0 A) [.ref mo].toArray s 0 0 A) (F0 m 0 ls []) by rw [hH, hlo] at hgo; exact hgo
  clear hH hlo
  obtain ⟨hsk, hlk2⟩ := hlk
  obtain ⟨hfe, hf1, hf2, c1, r1, l1, u1, hms, hcs⟩ := hlk2.resolve_left (fun z => by omega)
  obtain ⟨hag, hcr⟩ := src_x hMA.2.1 hMI hsr hsk
  have hma := ms_a hag hfe hms
  have hte := tk_e hma
  have hag1 := hag.1
  have hxn := hMA.2.1.1
  have hmh := hMA.1.1
  have hcf := hcr fm hsk.1 hfe
  have hag0 := hag.2 0 (by omega) (by omega)
  rw [Int.add_zero] at hag0
  have hsr2 := hsr
  unfold srJ at hsr2
  have hk1 := hsk.1
  have htk5 : 1 ≤ tk ∧ tk ≤ 5 := by refine ⟨by omega, ?_⟩; rcases hcs with ⟨z, -⟩ | ⟨z, -⟩ | ⟨z, -⟩ | ⟨z, -⟩ | ⟨z, -⟩ <;> omega
  clear hlk2
  refine lv_aload_n hx hb dMo_command_0 rfl (lv_at hl 0 rfl) ?_
  refine va_get (D := (dC, dI)) (ci := 7) (v := .int (iI tk)) (C := "MacroReckonerModel") (T := TMo) (N := 23) hx hb hts inMo hown hK hP 0 rfl rfl 16 (by decide) (hts _ wt4_74) (fun _ h9 => h9) rfl dMo_command_1 ?_
  refine lv_istore_n (lv' := [(1, .int (iI tk)), (0, .ref mo)]) hx hb dMo_command_4 rfl hl (by decide) rfl (fun ls hl => ?_)
  refine lv_aload_n hx hb dMo_command_5 rfl (lv_at hl 1 rfl) ?_
  refine cv_v (va_runV (C := "MacroReckonerModel") (As := []) (rest := []) ⟨hx, hb, hml, hown, hts⟩ (cMo_takeToken l dC dI dA mo ft lf hg kk tx pn tk fm tO tl mI mT mS mC mL mB mF mU mX mP mK mD mZ st s0 e0 (tO - fm) (by exact hMA.2.1) (by exact hMI) (by exact hsr) (by exact hsk) (by omega) H.size) (cwV 0 hts (gdV wt4_171 wt4_173 ws3_13 wt1_8 wt4_174) rfl rfl rfl ⟨rfl, by decide, by decide, by decide +kernel⟩ ⟨by decide, by decide⟩) (preV (q := ("MacroReckonerModel", TMo, 23)) hK hP hD hS hA XN_ok trivial [0, 1, 2, 3, 4, 5, 6, 7, 8, 9, 10, 11, 12, 13] rfl rfl 0 rfl rfl) rfl rfl hl.1 rfl (lv_room (Nat.le_of_ble_eq_true rfl)) dMo_command_6 ⟨Nat.zero_le _, Nat.zero_le _⟩) hP hD hS hA [0, 1, 2, 3, 4, 5, 6, 7, 8, 9, 10, 11, 12, 13] [] rfl (fun v_ => wMo dA mo ft v_.2.2.2.2 hg kk v_.2.2.1 pn tk fm tO ((tO - fm)) v_.2.2.2.1 mT mS mC mL mB v_.2.1 mU mX mP v_.1 mD mZ []) (fun _ => rfl) ([] : va_W) rfl (fun _ => rfl) [mo, mo + 1, mo + 2, mo + 3, mo + 4, mo + 5, mo + 6, mo + 7, mo + 8, mo + 9, mo + 10, mo + 11, mo + 12, mo + 13] rfl (fun _ => rfl) (fun _ => rfl) (fun u_ H locs hq6 hP hD hS => ?_)
  obtain ⟨K1_6, F1_6, tx1_6, I1_6, lf1_6⟩ := u_
  have hP : va_P (dC, dI) vwCl (wMo dA mo ft lf1_6 hg kk tx1_6 pn tk fm tO ((tO - fm)) I1_6 mT mS mC mL mB F1_6 mU mX mP K1_6 mD mZ []) H := hP
  have hD : va_D A (wMo dA mo ft lf1_6 hg kk tx1_6 pn tk fm tO ((tO - fm)) I1_6 mT mS mC mL mB F1_6 mU mX mP K1_6 mD mZ []) := hD
  have hq6 : (∀ j, 0 ≤ j → j < (tO - fm) → K1_6 j = srD st j) ∧ MX F1_6 mU mX tx1_6 (takA st (tO - fm)) ∧ MI I1_6 lf1_6 (takA st (tO - fm)) := hq6
  have htk := takA_k (st := st) (lg := tO - fm)
  have hMA2 : MA mT mS mC mL mB hg kk F1_6 mU mX tx1_6 mP pn (takA st (tO - fm)) := ⟨MH_c hMA.1 htk.1 htk.2.1 htk.2.2.1 htk.2.2.2.1, hq6.2.1, MG_c hMA.2.2 htk.2.2.2.2.1 htk.2.2.2.2.2⟩
  have htx6 := hq6.2.1.1
  replace htk := htk.1
  refine lv_iload_n hx hb dMo_command_9 rfl (lv_at hl 0 rfl) ?_
  refine lv_iconst (v := iI 2) hx hb dMo_command_10 rfl ?_
  refine iv_icmp_ne (tgt := 21) hx hb dMo_command_11 (by decide) ⟨by omega, by omega⟩ ⟨by decide, by decide⟩ (fun hc11 => ?_) (fun hc11 => ?_)
  · refine lv_iload_n hx hb dMo_command_21 rfl (lv_at hl 0 rfl) ?_
    refine lv_iconst (v := iI 3) hx hb dMo_command_22 rfl ?_
    refine iv_icmp_ne (tgt := 33) hx hb dMo_command_23 (by decide) ⟨by omega, by omega⟩ ⟨by decide, by decide⟩ (fun hc23 => ?_) (fun hc23 => ?_)
    · refine lv_iload_n hx hb dMo_command_33 rfl (lv_at hl 0 rfl) ?_
      refine lv_iconst (v := iI 4) hx hb dMo_command_34 rfl ?_
      refine iv_icmp_ne (tgt := 57) hx hb dMo_command_35 (by decide) ⟨by omega, by omega⟩ ⟨by decide, by decide⟩ (fun hc35 => ?_) (fun hc35 => ?_)
      · refine lv_iload_n hx hb dMo_command_57 rfl (lv_at hl 0 rfl) ?_
        refine lv_iconst (v := iI 5) hx hb dMo_command_58 rfl ?_
        refine iv_icmp_ne (tgt := 75) hx hb dMo_command_59 (by decide) ⟨by omega, by omega⟩ ⟨by decide, by decide⟩ (fun hc59 => ?_) (fun hc59 => ?_)
        · have hc2 : u1 = 1 ∧ (tx = 0 ∨ c1 ≠ 48) := by rcases hcs with z | z | z | z | z; exact z.2; exact absurd z.1 (by omega); exact absurd z.1 (by omega); exact absurd z.1 (by omega); exact absurd z.1 (by omega)
          have hco : comA st = (-1, takA st l1) := by rw [com_e hte.2.1 ((cmC_e hte.1 hte.2.2).1 (by omega)), cmd_w (by have h := takA_k (st := st) (lg := l1); omega)]
          have htl1 := takA_k (st := st) (lg := l1)
          have hil1 : (takA st l1).inp = st.inp ∧ (takA st l1).il = st.il := by unfold takA; rw [if_pos (by omega)]; split <;> exact ⟨rfl, rfl⟩
          have hil2 : (takA st (tO - fm)).inp = st.inp ∧ (takA st (tO - fm)).il = st.il := by unfold takA; rw [if_pos (by omega)]; split <;> exact ⟨rfl, rfl⟩
          refine lv_iconst (v := iI (-1)) hx hb dMo_command_75 rfl ?_
          refine lv_istore_n (lv' := [(2, .int (iI (-1))), (1, .int (iI tk)), (0, .ref mo)]) hx hb dMo_command_76 rfl hl (by decide) rfl (fun ls hl => ?_)
          refine lv_aload_n hx hb dMo_command_77 rfl (lv_at hl 2 rfl) ?_
          refine lv_iload_n hx hb dMo_command_78 rfl (lv_at hl 0 rfl) ?_
          refine iv_if_ge (tgt := 86) hx hb dMo_command_79 (by decide) ⟨by decide, by decide⟩ (fun hc79 => absurd hc79 (by omega)) (fun hc79 => ?_)
          refine lv_iconst (v := iI 0) hx hb dMo_command_82 rfl ?_
          refine lv_goto (tgt := 90) hx hb dMo_command_83 (by decide) ?_
          refine va_put (D := (dC, dI)) (ci := 7) (v := .int (iI 0)) (ty := .int) (C := "MacroReckonerModel") (T := TMo) (N := 23) hx hb hts inMo tyMo tyMo_ok nmMo hown hK hP hD hS 0 rfl rfl 10 (by decide) (hts _ wt4_68) (fun _ h9 => h9) rfl (by decide +kernel) rfl rfl (Nat.le_of_ble_eq_true rfl) dMo_command_90 (fun H locs hP hD hS => ?_)
          have hP : va_P (dC, dI) vwCl (wMo dA mo ft lf1_6 hg kk 0 pn tk fm tO ((tO - fm)) I1_6 mT mS mC mL mB F1_6 mU mX mP K1_6 mD mZ []) H := hP
          have hD : va_D A (wMo dA mo ft lf1_6 hg kk 0 pn tk fm tO ((tO - fm)) I1_6 mT mS mC mL mB F1_6 mU mX mP K1_6 mD mZ []) := hD
          refine lv_iload_n hx hb dMo_command_93 rfl (lv_at hl 0 rfl) ?_
          exact rt_i hx hb hr hlocks hK hS dMo_command_94 (mT, mS, mC, mL, mB, mD, mZ, F1_6, mU, mX, 0, mP, pn, hg, kk, K1_6, (tO - fm), I1_6, lf1_6) hP hD (show (-1) = (stpA st).1 ∧ MA mT mS mC mL mB hg kk F1_6 mU mX 0 mP pn (stpA st).2 ∧ MI I1_6 lf1_6 (stpA st).2 from by first | exact hfc.1 (by omega) | (have hz9 := hfc.2 (by omega); exact hz9) | (rw [stp_f hco (by decide)]; exact ⟨rfl, ⟨MH_c hMA.1 htl1.1 htl1.2.1 htl1.2.2.1 htl1.2.2.2.1, MX_0 rfl, MG_c hMA.2.2 htl1.2.2.2.2.1 htl1.2.2.2.2.2⟩, MI_c hq6.2.2 (hil1.1.trans hil2.1.symm) (hil1.2.trans hil2.2.symm)⟩))
        · have hc2 : u1 = 0 ∧ c1 = gS tx mX mI fm ∧ l1 = 1 ∧ tO = fm + 1 ∧ c1 ≠ 91 ∧ ¬ prs c1 ∧ (c1 < 48 ∨ 57 < c1) := by rcases hcs with z | z | z | z | z; exact absurd z.1 (by omega); exact absurd z.1 (by omega); exact absurd z.1 (by omega); exact absurd z.1 (by omega); exact z.2
          have hl1 : tO - fm = l1 := by omega
          have hk0 := hq6.1 0 (by omega) (by omega)
          have hK0 : K1_6 0 = c1 := by rw [hk0, hag0]; exact hc2.2.1.symm
          have hco : comA st = cmdA (takA st (tO - fm)) c1 (srD st 1 - 97) (srD st) (tO - fm) := by rw [com_e hte.2.1 ((cmC_e hte.1 hte.2.2).2 (by omega)), hl1]
          refine lv_aload_n hx hb dMo_command_62 rfl (lv_at hl 1 rfl) ?_
          refine lv_aload_n hx hb dMo_command_63 rfl (lv_at hl 1 rfl) ?_
          refine va_get (D := (dC, dI)) (ci := 7) (v := .ref (mo + 11)) (C := "MacroReckonerModel") (T := TMo) (N := 23) hx hb hts inMo hown hK hP 0 rfl rfl 19 (by decide) (hts _ wt4_77) (fun _ h9 => h9) rfl dMo_command_64 ?_
          refine lv_iconst (v := iI 0) hx hb dMo_command_67 rfl ?_
          refine iv_iald hx hb hK hP 11 0 rfl rfl (by decide) dMo_command_68 (by omega) (by omega) ?_
          refine cv_i (va_runV (C := "MacroReckonerModel") (As := [.int (iI (K1_6 0))]) (rest := []) ⟨hx, hb, hml, hown, hts⟩ (cMo_sign l dC dI dA mo ft lf1_6 hg kk tx1_6 pn tk fm tO (((tO - fm))) I1_6 mT mS mC mL mB F1_6 mU mX mP K1_6 mD mZ (K1_6 0) (srD st 1 - 97) (srD st) (tO - fm) ((takA st (tO - fm))) (by exact hMA2) (by omega) (by rw [hK0]; exact hc2.2.2.2.2.2.1) (by omega) H.size) (cwV 1 hts (gdV wt4_238 wt5_0 ws4_13 wt1_8 wt5_1) rfl rfl rfl ⟨rfl, by decide, by decide, by decide +kernel⟩ ⟨by decide, by decide⟩) (preV (q := ("MacroReckonerModel", TMo, 23)) hK hP hD hS hA XN_ok trivial [0, 1, 2, 3, 4, 5, 6, 7, 8, 9, 10, 11, 12, 13] rfl rfl 0 rfl rfl) rfl rfl hl.1 rfl (lv_room (Nat.le_of_ble_eq_true rfl)) dMo_command_69 ⟨Nat.zero_le _, Nat.zero_le _⟩) hP hD hS hA [0, 1, 2, 3, 4, 5, 6, 7, 8, 9, 10, 11, 12, 13] [] rfl (fun v_ => wMo dA mo ft lf1_6 v_.2.2.2.2.2.2.2.2.2.2.2.2.2.1 v_.2.2.2.2.2.2.2.2.2.2.2.2.2.2 v_.2.2.2.2.2.2.2.2.2.2.1 v_.2.2.2.2.2.2.2.2.2.2.2.2.1 tk fm tO ((((tO - fm)))) I1_6 v_.1 v_.2.1 v_.2.2.1 v_.2.2.2.1 v_.2.2.2.2.1 v_.2.2.2.2.2.2.2.1 v_.2.2.2.2.2.2.2.2.1 v_.2.2.2.2.2.2.2.2.2.1 v_.2.2.2.2.2.2.2.2.2.2.2.1 K1_6 v_.2.2.2.2.2.1 v_.2.2.2.2.2.2.1 []) (fun _ => rfl) ([] : va_W) rfl (fun _ => rfl) [mo, mo + 1, mo + 2, mo + 3, mo + 4, mo + 5, mo + 6, mo + 7, mo + 8, mo + 9, mo + 10, mo + 11, mo + 12, mo + 13] rfl (fun _ => rfl) (fun _ => rfl) (fun r69 u_ H locs hq69 hP hD hS => ?_)
          obtain ⟨T1_69, S1_69, C1_69, L1_69, B1_69, D1_69, Z1_69, F1_69, U1_69, X1_69, tx1_69, P1_69, pn1_69, hg1_69, kk1_69⟩ := u_
          have hP : va_P (dC, dI) vwCl (wMo dA mo ft lf1_6 hg1_69 kk1_69 tx1_69 pn1_69 tk fm tO ((((tO - fm)))) I1_6 T1_69 S1_69 C1_69 L1_69 B1_69 F1_69 U1_69 X1_69 P1_69 K1_6 D1_69 Z1_69 []) H := hP
          have hD : va_D A (wMo dA mo ft lf1_6 hg1_69 kk1_69 tx1_69 pn1_69 tk fm tO ((((tO - fm)))) I1_6 T1_69 S1_69 C1_69 L1_69 B1_69 F1_69 U1_69 X1_69 P1_69 K1_6 D1_69 Z1_69 []) := hD
          have hq69 : r69 = (cmdA ((takA st (tO - fm))) (K1_6 0) (srD st 1 - 97) (srD st) (tO - fm)).1 ∧ MA T1_69 S1_69 C1_69 L1_69 B1_69 hg1_69 kk1_69 F1_69 U1_69 X1_69 tx1_69 P1_69 pn1_69 (cmdA ((takA st (tO - fm))) (K1_6 0) (srD st 1 - 97) (srD st) (tO - fm)).2 := hq69
          rw [hK0] at hq69
          have hrb := cmd_bb (st := takA st (tO - fm)) (c := c1) (rg := srD st 1 - 97) (D := srD st) (lg := tO - fm)
          rw [← hq69.1] at hrb
          have hfc := fin_c hco hq69.1 hq69.2 (MI_c hq6.2.2 cmd_i.1 cmd_i.2)
          refine lv_goto (tgt := 76) hx hb dMo_command_72 (by decide) ?_
          refine lv_istore_n (lv' := [(2, .int (iI r69)), (1, .int (iI tk)), (0, .ref mo)]) hx hb dMo_command_76 rfl hl (by decide) rfl (fun ls hl => ?_)
          refine lv_aload_n hx hb dMo_command_77 rfl (lv_at hl 2 rfl) ?_
          refine lv_iload_n hx hb dMo_command_78 rfl (lv_at hl 0 rfl) ?_
          refine iv_if_ge (tgt := 86) hx hb dMo_command_79 (by decide) ⟨by omega, by omega⟩ (fun hc79 => ?_) (fun hc79 => ?_)
          · refine lv_aload_n hx hb dMo_command_86 rfl (lv_at hl 2 rfl) ?_
            refine va_get (D := (dC, dI)) (ci := 7) (v := .int (iI tx1_69)) (C := "MacroReckonerModel") (T := TMo) (N := 23) hx hb hts inMo hown hK hP 0 rfl rfl 10 (by decide) (hts _ wt4_68) (fun _ h9 => h9) rfl dMo_command_87 ?_
            refine va_put (D := (dC, dI)) (ci := 7) (v := .int (iI tx1_69)) (ty := .int) (C := "MacroReckonerModel") (T := TMo) (N := 23) hx hb hts inMo tyMo tyMo_ok nmMo hown hK hP hD hS 0 rfl rfl 10 (by decide) (hts _ wt4_68) (fun _ h9 => h9) rfl (by decide +kernel) rfl rfl (Nat.le_of_ble_eq_true rfl) dMo_command_90 (fun H locs hP hD hS => ?_)
            have hP : va_P (dC, dI) vwCl (wMo dA mo ft lf1_6 hg1_69 kk1_69 tx1_69 pn1_69 tk fm tO ((((tO - fm)))) I1_6 T1_69 S1_69 C1_69 L1_69 B1_69 F1_69 U1_69 X1_69 P1_69 K1_6 D1_69 Z1_69 []) H := hP
            have hD : va_D A (wMo dA mo ft lf1_6 hg1_69 kk1_69 tx1_69 pn1_69 tk fm tO ((((tO - fm)))) I1_6 T1_69 S1_69 C1_69 L1_69 B1_69 F1_69 U1_69 X1_69 P1_69 K1_6 D1_69 Z1_69 []) := hD
            refine lv_iload_n hx hb dMo_command_93 rfl (lv_at hl 0 rfl) ?_
            exact rt_i hx hb hr hlocks hK hS dMo_command_94 (T1_69, S1_69, C1_69, L1_69, B1_69, D1_69, Z1_69, F1_69, U1_69, X1_69, tx1_69, P1_69, pn1_69, hg1_69, kk1_69, K1_6, (((tO - fm))), I1_6, lf1_6) hP hD (show r69 = (stpA st).1 ∧ MA T1_69 S1_69 C1_69 L1_69 B1_69 hg1_69 kk1_69 F1_69 U1_69 X1_69 tx1_69 P1_69 pn1_69 (stpA st).2 ∧ MI I1_6 lf1_6 (stpA st).2 from by first | exact hfc.1 (by omega) | (have hz9 := hfc.2 (by omega); exact hz9) | (rw [stp_f hco (by decide)]; exact ⟨rfl, ⟨MH_c hMA.1 htl1.1 htl1.2.1 htl1.2.2.1 htl1.2.2.2.1, MX_0 rfl, MG_c hMA.2.2 htl1.2.2.2.2.1 htl1.2.2.2.2.2⟩, MI_c hq6.2.2 (hil1.1.trans hil2.1.symm) (hil1.2.trans hil2.2.symm)⟩))
          · refine lv_iconst (v := iI 0) hx hb dMo_command_82 rfl ?_
            refine lv_goto (tgt := 90) hx hb dMo_command_83 (by decide) ?_
            refine va_put (D := (dC, dI)) (ci := 7) (v := .int (iI 0)) (ty := .int) (C := "MacroReckonerModel") (T := TMo) (N := 23) hx hb hts inMo tyMo tyMo_ok nmMo hown hK hP hD hS 0 rfl rfl 10 (by decide) (hts _ wt4_68) (fun _ h9 => h9) rfl (by decide +kernel) rfl rfl (Nat.le_of_ble_eq_true rfl) dMo_command_90 (fun H locs hP hD hS => ?_)
            have hP : va_P (dC, dI) vwCl (wMo dA mo ft lf1_6 hg1_69 kk1_69 0 pn1_69 tk fm tO ((((tO - fm)))) I1_6 T1_69 S1_69 C1_69 L1_69 B1_69 F1_69 U1_69 X1_69 P1_69 K1_6 D1_69 Z1_69 []) H := hP
            have hD : va_D A (wMo dA mo ft lf1_6 hg1_69 kk1_69 0 pn1_69 tk fm tO ((((tO - fm)))) I1_6 T1_69 S1_69 C1_69 L1_69 B1_69 F1_69 U1_69 X1_69 P1_69 K1_6 D1_69 Z1_69 []) := hD
            refine lv_iload_n hx hb dMo_command_93 rfl (lv_at hl 0 rfl) ?_
            exact rt_i hx hb hr hlocks hK hS dMo_command_94 (T1_69, S1_69, C1_69, L1_69, B1_69, D1_69, Z1_69, F1_69, U1_69, X1_69, 0, P1_69, pn1_69, hg1_69, kk1_69, K1_6, (((tO - fm))), I1_6, lf1_6) hP hD (show r69 = (stpA st).1 ∧ MA T1_69 S1_69 C1_69 L1_69 B1_69 hg1_69 kk1_69 F1_69 U1_69 X1_69 0 P1_69 pn1_69 (stpA st).2 ∧ MI I1_6 lf1_6 (stpA st).2 from by first | exact hfc.1 (by omega) | (have hz9 := hfc.2 (by omega); exact hz9) | (rw [stp_f hco (by decide)]; exact ⟨rfl, ⟨MH_c hMA.1 htl1.1 htl1.2.1 htl1.2.2.1 htl1.2.2.2.1, MX_0 rfl, MG_c hMA.2.2 htl1.2.2.2.2.1 htl1.2.2.2.2.2⟩, MI_c hq6.2.2 (hil1.1.trans hil2.1.symm) (hil1.2.trans hil2.2.symm)⟩))
      · have hc2 : u1 = 0 ∧ prs (gS tx mX mI fm) ∧ l1 = 2 ∧ tO = fm + 2 := by rcases hcs with z | z | z | z | z; exact absurd z.1 (by omega); exact absurd z.1 (by omega); exact absurd z.1 (by omega); exact z.2; exact absurd z.1 (by omega)
        have hps : prs (srD st 0) := by rw [hag0]; exact hc2.2.1
        have hpu := pr_u (by have h := hma; rw [hc2.1] at h; exact h) hps
        have hl1 : tO - fm = l1 := by omega
        have hk0 := hq6.1 0 (by omega) (by omega)
        have hk1b := hq6.1 1 (by omega) (by omega)
        have hg1b := hag.2 1 (by omega) (by omega)
        have hcf1 := hcr (fm + 1) (by omega) (by omega)
        refine lv_aload_n hx hb dMo_command_38 rfl (lv_at hl 1 rfl) ?_
        refine lv_aload_n hx hb dMo_command_39 rfl (lv_at hl 1 rfl) ?_
        refine va_get (D := (dC, dI)) (ci := 7) (v := .ref (mo + 11)) (C := "MacroReckonerModel") (T := TMo) (N := 23) hx hb hts inMo hown hK hP 0 rfl rfl 19 (by decide) (hts _ wt4_77) (fun _ h9 => h9) rfl dMo_command_40 ?_
        refine lv_iconst (v := iI 0) hx hb dMo_command_43 rfl ?_
        refine iv_iald hx hb hK hP 11 0 rfl rfl (by decide) dMo_command_44 (by omega) (by omega) ?_
        refine lv_aload_n hx hb dMo_command_45 rfl (lv_at hl 1 rfl) ?_
        refine va_get (D := (dC, dI)) (ci := 7) (v := .ref (mo + 11)) (C := "MacroReckonerModel") (T := TMo) (N := 23) hx hb hts inMo hown hK hP 0 rfl rfl 19 (by decide) (hts _ wt4_77) (fun _ h9 => h9) rfl dMo_command_46 ?_
        refine lv_iconst (v := iI 1) hx hb dMo_command_49 rfl ?_
        refine iv_iald hx hb hK hP 11 0 rfl rfl (by decide) dMo_command_50 (by omega) (by omega) ?_
        refine cv_i (va_runV (C := "MacroReckonerModel") (As := [.int (iI (K1_6 0)), .int (iI (K1_6 1))]) (rest := []) ⟨hx, hb, hml, hown, hts⟩ (cMo_pair l dC dI dA mo ft lf1_6 hg kk tx1_6 pn tk fm tO (((tO - fm))) I1_6 mT mS mC mL mB F1_6 mU mX mP K1_6 mD mZ (K1_6 0) (K1_6 1) (srD st) (tO - fm) ((takA st (tO - fm))) (by exact hMA2) (by rw [hk0]; exact hps) (by omega) H.size) (cwV 2 hts (gdV wt4_211 wt4_213 ws4_7 wt1_8 wt4_214) rfl rfl rfl ⟨rfl, by decide, by decide, by decide +kernel⟩ ⟨by decide, by decide⟩) (preV (q := ("MacroReckonerModel", TMo, 23)) hK hP hD hS hA XN_ok trivial [0, 1, 2, 3, 4, 5, 6, 7, 8, 9, 10, 11, 12, 13] rfl rfl 0 rfl rfl) rfl rfl hl.1 rfl (lv_room (Nat.le_of_ble_eq_true rfl)) dMo_command_51 ⟨Nat.zero_le _, Nat.zero_le _⟩) hP hD hS hA [0, 1, 2, 3, 4, 5, 6, 7, 8, 9, 10, 11, 12, 13] [] rfl (fun v_ => wMo dA mo ft lf1_6 v_.2.2.2.2.2.2.2.2.2.2.2 kk v_.2.2.2.2.2.2.2.2.2.2.1 pn tk fm tO ((((tO - fm)))) I1_6 v_.1 v_.2.1 v_.2.2.1 v_.2.2.2.1 v_.2.2.2.2.1 v_.2.2.2.2.2.2.2.1 v_.2.2.2.2.2.2.2.2.1 v_.2.2.2.2.2.2.2.2.2.1 mP K1_6 v_.2.2.2.2.2.1 v_.2.2.2.2.2.2.1 []) (fun _ => rfl) ([] : va_W) rfl (fun _ => rfl) [mo, mo + 1, mo + 2, mo + 3, mo + 4, mo + 5, mo + 6, mo + 7, mo + 8, mo + 9, mo + 10, mo + 11, mo + 12, mo + 13] rfl (fun _ => rfl) (fun _ => rfl) (fun r51 u_ H locs hq51 hP hD hS => ?_)
        obtain ⟨T1_51, S1_51, C1_51, L1_51, B1_51, D1_51, Z1_51, F1_51, U1_51, X1_51, tx1_51, hg1_51⟩ := u_
        have hP : va_P (dC, dI) vwCl (wMo dA mo ft lf1_6 hg1_51 kk tx1_51 pn tk fm tO ((((tO - fm)))) I1_6 T1_51 S1_51 C1_51 L1_51 B1_51 F1_51 U1_51 X1_51 mP K1_6 D1_51 Z1_51 []) H := hP
        have hD : va_D A (wMo dA mo ft lf1_6 hg1_51 kk tx1_51 pn tk fm tO ((((tO - fm)))) I1_6 T1_51 S1_51 C1_51 L1_51 B1_51 F1_51 U1_51 X1_51 mP K1_6 D1_51 Z1_51 []) := hD
        have hq51 : (0 ≤ (K1_6 1) - 97 ∧ (K1_6 1) - 97 < 26 ∧ r51 = (cmdA ((takA st (tO - fm))) (K1_6 0) ((K1_6 1) - 97) (srD st) (tO - fm)).1 ∧ MA T1_51 S1_51 C1_51 L1_51 B1_51 hg1_51 kk F1_51 U1_51 X1_51 tx1_51 mP pn (cmdA ((takA st (tO - fm))) (K1_6 0) ((K1_6 1) - 97) (srD st) (tO - fm)).2) ∨ (((K1_6 1) - 97 < 0 ∨ 26 ≤ (K1_6 1) - 97) ∧ r51 = -1 ∧ MA T1_51 S1_51 C1_51 L1_51 B1_51 hg1_51 kk F1_51 U1_51 X1_51 tx1_51 mP pn ((takA st (tO - fm)))) := hq51
        rw [hk0, hk1b] at hq51
        have hfq : ∃ Q : Int × AS, comA st = Q ∧ r51 = Q.1 ∧ MA T1_51 S1_51 C1_51 L1_51 B1_51 hg1_51 kk F1_51 U1_51 X1_51 tx1_51 mP pn Q.2 ∧ MI I1_6 lf1_6 Q.2 ∧ -10 ≤ Q.1 ∧ Q.1 ≤ 0 := by rcases hq51 with ⟨a1, a2, a3, a4⟩ | ⟨a1, a3, a4⟩; exact ⟨_, by rw [com_e hte.2.1 ((cmC_e hte.1 hte.2.2).2 (by omega)), show c1 = srD st 0 by omega, ← hl1], a3, a4, MI_c hq6.2.2 cmd_i.1 cmd_i.2, cmd_bb⟩; exact ⟨(-1, takA st (tO - fm)), by rw [com_e hte.2.1 ((cmC_e hte.1 hte.2.2).2 (by omega)), show c1 = 0 by omega, ← hl1, cmd_w (by omega)], a3, a4, hq6.2.2, by show (-10 : Int) ≤ -1; decide, by show (-1 : Int) ≤ 0; decide⟩
        obtain ⟨Q9, hQ1, hQ2, hQ3, hQ4, hrb⟩ := hfq
        rw [← hQ2] at hrb
        have hfc := fin_c hQ1 hQ2 hQ3 hQ4
        refine lv_goto (tgt := 76) hx hb dMo_command_54 (by decide) ?_
        refine lv_istore_n (lv' := [(2, .int (iI r51)), (1, .int (iI tk)), (0, .ref mo)]) hx hb dMo_command_76 rfl hl (by decide) rfl (fun ls hl => ?_)
        refine lv_aload_n hx hb dMo_command_77 rfl (lv_at hl 2 rfl) ?_
        refine lv_iload_n hx hb dMo_command_78 rfl (lv_at hl 0 rfl) ?_
        refine iv_if_ge (tgt := 86) hx hb dMo_command_79 (by decide) ⟨by omega, by omega⟩ (fun hc79 => ?_) (fun hc79 => ?_)
        · refine lv_aload_n hx hb dMo_command_86 rfl (lv_at hl 2 rfl) ?_
          refine va_get (D := (dC, dI)) (ci := 7) (v := .int (iI tx1_51)) (C := "MacroReckonerModel") (T := TMo) (N := 23) hx hb hts inMo hown hK hP 0 rfl rfl 10 (by decide) (hts _ wt4_68) (fun _ h9 => h9) rfl dMo_command_87 ?_
          refine va_put (D := (dC, dI)) (ci := 7) (v := .int (iI tx1_51)) (ty := .int) (C := "MacroReckonerModel") (T := TMo) (N := 23) hx hb hts inMo tyMo tyMo_ok nmMo hown hK hP hD hS 0 rfl rfl 10 (by decide) (hts _ wt4_68) (fun _ h9 => h9) rfl (by decide +kernel) rfl rfl (Nat.le_of_ble_eq_true rfl) dMo_command_90 (fun H locs hP hD hS => ?_)
          have hP : va_P (dC, dI) vwCl (wMo dA mo ft lf1_6 hg1_51 kk tx1_51 pn tk fm tO ((((tO - fm)))) I1_6 T1_51 S1_51 C1_51 L1_51 B1_51 F1_51 U1_51 X1_51 mP K1_6 D1_51 Z1_51 []) H := hP
          have hD : va_D A (wMo dA mo ft lf1_6 hg1_51 kk tx1_51 pn tk fm tO ((((tO - fm)))) I1_6 T1_51 S1_51 C1_51 L1_51 B1_51 F1_51 U1_51 X1_51 mP K1_6 D1_51 Z1_51 []) := hD
          refine lv_iload_n hx hb dMo_command_93 rfl (lv_at hl 0 rfl) ?_
          exact rt_i hx hb hr hlocks hK hS dMo_command_94 (T1_51, S1_51, C1_51, L1_51, B1_51, D1_51, Z1_51, F1_51, U1_51, X1_51, tx1_51, mP, pn, hg1_51, kk, K1_6, (((tO - fm))), I1_6, lf1_6) hP hD (show r51 = (stpA st).1 ∧ MA T1_51 S1_51 C1_51 L1_51 B1_51 hg1_51 kk F1_51 U1_51 X1_51 tx1_51 mP pn (stpA st).2 ∧ MI I1_6 lf1_6 (stpA st).2 from by first | exact hfc.1 (by omega) | (have hz9 := hfc.2 (by omega); exact hz9) | (rw [stp_f hco (by decide)]; exact ⟨rfl, ⟨MH_c hMA.1 htl1.1 htl1.2.1 htl1.2.2.1 htl1.2.2.2.1, MX_0 rfl, MG_c hMA.2.2 htl1.2.2.2.2.1 htl1.2.2.2.2.2⟩, MI_c hq6.2.2 (hil1.1.trans hil2.1.symm) (hil1.2.trans hil2.2.symm)⟩))
        · refine lv_iconst (v := iI 0) hx hb dMo_command_82 rfl ?_
          refine lv_goto (tgt := 90) hx hb dMo_command_83 (by decide) ?_
          refine va_put (D := (dC, dI)) (ci := 7) (v := .int (iI 0)) (ty := .int) (C := "MacroReckonerModel") (T := TMo) (N := 23) hx hb hts inMo tyMo tyMo_ok nmMo hown hK hP hD hS 0 rfl rfl 10 (by decide) (hts _ wt4_68) (fun _ h9 => h9) rfl (by decide +kernel) rfl rfl (Nat.le_of_ble_eq_true rfl) dMo_command_90 (fun H locs hP hD hS => ?_)
          have hP : va_P (dC, dI) vwCl (wMo dA mo ft lf1_6 hg1_51 kk 0 pn tk fm tO ((((tO - fm)))) I1_6 T1_51 S1_51 C1_51 L1_51 B1_51 F1_51 U1_51 X1_51 mP K1_6 D1_51 Z1_51 []) H := hP
          have hD : va_D A (wMo dA mo ft lf1_6 hg1_51 kk 0 pn tk fm tO ((((tO - fm)))) I1_6 T1_51 S1_51 C1_51 L1_51 B1_51 F1_51 U1_51 X1_51 mP K1_6 D1_51 Z1_51 []) := hD
          refine lv_iload_n hx hb dMo_command_93 rfl (lv_at hl 0 rfl) ?_
          exact rt_i hx hb hr hlocks hK hS dMo_command_94 (T1_51, S1_51, C1_51, L1_51, B1_51, D1_51, Z1_51, F1_51, U1_51, X1_51, 0, mP, pn, hg1_51, kk, K1_6, (((tO - fm))), I1_6, lf1_6) hP hD (show r51 = (stpA st).1 ∧ MA T1_51 S1_51 C1_51 L1_51 B1_51 hg1_51 kk F1_51 U1_51 X1_51 0 mP pn (stpA st).2 ∧ MI I1_6 lf1_6 (stpA st).2 from by first | exact hfc.1 (by omega) | (have hz9 := hfc.2 (by omega); exact hz9) | (rw [stp_f hco (by decide)]; exact ⟨rfl, ⟨MH_c hMA.1 htl1.1 htl1.2.1 htl1.2.2.1 htl1.2.2.2.1, MX_0 rfl, MG_c hMA.2.2 htl1.2.2.2.2.1 htl1.2.2.2.2.2⟩, MI_c hq6.2.2 (hil1.1.trans hil2.1.symm) (hil1.2.trans hil2.2.symm)⟩))
    · have hc2 : u1 = 0 ∧ c1 = 91 ∧ tO = fm + l1 ∧ gS tx mX mI fm = 91 := by rcases hcs with z | z | z | z | z; exact absurd z.1 (by omega); exact absurd z.1 (by omega); exact z.2; exact absurd z.1 (by omega); exact absurd z.1 (by omega)
      have htx9 := txt_u (by have h := hma; rw [hc2.1, hc2.2.1] at h; exact h) (by omega)
      have hl1 : tO - fm = l1 := by omega
      have hco : comA st = txtA (takA st (tO - fm)) (srD st) (tO - fm) := by rw [com_e hte.2.1 ((cmC_e hte.1 hte.2.2).2 (by omega)), hc2.2.1, hl1, (cmd_n (by rw [hl1] at htk; omega)).2]
      refine lv_aload_n hx hb dMo_command_26 rfl (lv_at hl 1 rfl) ?_
      refine cv_i (va_runV (C := "MacroReckonerModel") (As := []) (rest := []) ⟨hx, hb, hml, hown, hts⟩ (cMo_text l dC dI dA mo ft lf1_6 hg kk tx1_6 pn tk fm tO (((tO - fm))) I1_6 mT mS mC mL mB F1_6 mU mX mP K1_6 mD mZ ((takA st (tO - fm))) (srD st) (by exact hMA2.1) (by omega) (by intro j x y; refine ⟨hq6.1 j x y, ?_⟩; rw [hag.2 j x (by omega)]; exact hcr _ (by omega) (by omega)) H.size) (cwV 0 hts (gdV wt4_207 wt4_209 ws4_6 wt1_8 wt4_210) rfl rfl rfl ⟨rfl, by decide, by decide, by decide +kernel⟩ ⟨by decide, by decide⟩) (preV (q := ("MacroReckonerModel", TMo, 23)) hK hP hD hS hA XN_ok trivial [0, 1, 2, 3, 4, 5, 6, 7, 8, 9, 10, 11, 12, 13] rfl rfl 0 rfl rfl) rfl rfl hl.1 rfl (lv_room (Nat.le_of_ble_eq_true rfl)) dMo_command_27 ⟨Nat.zero_le _, Nat.zero_le _⟩) hP hD hS hA [0, 1, 2, 3, 4, 5, 6, 7, 8, 9, 10, 11, 12, 13] [] rfl (fun v_ => wMo dA mo ft lf1_6 v_.2.2.2.2.2 kk tx1_6 pn tk fm tO ((((tO - fm)))) I1_6 v_.1 v_.2.1 v_.2.2.1 v_.2.2.2.1 v_.2.2.2.2.1 F1_6 mU mX mP K1_6 mD mZ []) (fun _ => rfl) ([] : va_W) rfl (fun _ => rfl) [mo, mo + 1, mo + 2, mo + 3, mo + 4, mo + 5, mo + 6, mo + 7, mo + 8, mo + 9, mo + 10, mo + 11, mo + 12, mo + 13] rfl (fun _ => rfl) (fun _ => rfl) (fun r27 u_ H locs hq27 hP hD hS => ?_)
      obtain ⟨T1_27, S1_27, C1_27, L1_27, B1_27, hg1_27⟩ := u_
      have hP : va_P (dC, dI) vwCl (wMo dA mo ft lf1_6 hg1_27 kk tx1_6 pn tk fm tO ((((tO - fm)))) I1_6 T1_27 S1_27 C1_27 L1_27 B1_27 F1_6 mU mX mP K1_6 mD mZ []) H := hP
      have hD : va_D A (wMo dA mo ft lf1_6 hg1_27 kk tx1_6 pn tk fm tO ((((tO - fm)))) I1_6 T1_27 S1_27 C1_27 L1_27 B1_27 F1_6 mU mX mP K1_6 mD mZ []) := hD
      have hq27 : r27 = (txtA ((takA st (tO - fm))) (srD st) (((tO - fm)))).1 ∧ MH T1_27 S1_27 C1_27 L1_27 B1_27 hg1_27 kk (txtA ((takA st (tO - fm))) (srD st) (((tO - fm)))).2 := hq27
      have hrb := txt_b (st := takA st (tO - fm)) (D := srD st) (lg := tO - fm)
      rw [← hq27.1] at hrb
      have hno := txt_o (D := srD st) (lg := tO - fm) hMA2.2.1 hMA2.2.2 hq6.2.2
      have hfc := fin_c hco hq27.1 ⟨hq27.2, hno.1, hno.2.1⟩ hno.2.2
      refine lv_goto (tgt := 76) hx hb dMo_command_30 (by decide) ?_
      refine lv_istore_n (lv' := [(2, .int (iI r27)), (1, .int (iI tk)), (0, .ref mo)]) hx hb dMo_command_76 rfl hl (by decide) rfl (fun ls hl => ?_)
      refine lv_aload_n hx hb dMo_command_77 rfl (lv_at hl 2 rfl) ?_
      refine lv_iload_n hx hb dMo_command_78 rfl (lv_at hl 0 rfl) ?_
      refine iv_if_ge (tgt := 86) hx hb dMo_command_79 (by decide) ⟨by omega, by omega⟩ (fun hc79 => ?_) (fun hc79 => ?_)
      · refine lv_aload_n hx hb dMo_command_86 rfl (lv_at hl 2 rfl) ?_
        refine va_get (D := (dC, dI)) (ci := 7) (v := .int (iI tx1_6)) (C := "MacroReckonerModel") (T := TMo) (N := 23) hx hb hts inMo hown hK hP 0 rfl rfl 10 (by decide) (hts _ wt4_68) (fun _ h9 => h9) rfl dMo_command_87 ?_
        refine va_put (D := (dC, dI)) (ci := 7) (v := .int (iI tx1_6)) (ty := .int) (C := "MacroReckonerModel") (T := TMo) (N := 23) hx hb hts inMo tyMo tyMo_ok nmMo hown hK hP hD hS 0 rfl rfl 10 (by decide) (hts _ wt4_68) (fun _ h9 => h9) rfl (by decide +kernel) rfl rfl (Nat.le_of_ble_eq_true rfl) dMo_command_90 (fun H locs hP hD hS => ?_)
        have hP : va_P (dC, dI) vwCl (wMo dA mo ft lf1_6 hg1_27 kk tx1_6 pn tk fm tO ((((tO - fm)))) I1_6 T1_27 S1_27 C1_27 L1_27 B1_27 F1_6 mU mX mP K1_6 mD mZ []) H := hP
        have hD : va_D A (wMo dA mo ft lf1_6 hg1_27 kk tx1_6 pn tk fm tO ((((tO - fm)))) I1_6 T1_27 S1_27 C1_27 L1_27 B1_27 F1_6 mU mX mP K1_6 mD mZ []) := hD
        refine lv_iload_n hx hb dMo_command_93 rfl (lv_at hl 0 rfl) ?_
        exact rt_i hx hb hr hlocks hK hS dMo_command_94 (T1_27, S1_27, C1_27, L1_27, B1_27, mD, mZ, F1_6, mU, mX, tx1_6, mP, pn, hg1_27, kk, K1_6, (((tO - fm))), I1_6, lf1_6) hP hD (show r27 = (stpA st).1 ∧ MA T1_27 S1_27 C1_27 L1_27 B1_27 hg1_27 kk F1_6 mU mX tx1_6 mP pn (stpA st).2 ∧ MI I1_6 lf1_6 (stpA st).2 from by first | exact hfc.1 (by omega) | (have hz9 := hfc.2 (by omega); exact hz9) | (rw [stp_f hco (by decide)]; exact ⟨rfl, ⟨MH_c hMA.1 htl1.1 htl1.2.1 htl1.2.2.1 htl1.2.2.2.1, MX_0 rfl, MG_c hMA.2.2 htl1.2.2.2.2.1 htl1.2.2.2.2.2⟩, MI_c hq6.2.2 (hil1.1.trans hil2.1.symm) (hil1.2.trans hil2.2.symm)⟩))
      · refine lv_iconst (v := iI 0) hx hb dMo_command_82 rfl ?_
        refine lv_goto (tgt := 90) hx hb dMo_command_83 (by decide) ?_
        refine va_put (D := (dC, dI)) (ci := 7) (v := .int (iI 0)) (ty := .int) (C := "MacroReckonerModel") (T := TMo) (N := 23) hx hb hts inMo tyMo tyMo_ok nmMo hown hK hP hD hS 0 rfl rfl 10 (by decide) (hts _ wt4_68) (fun _ h9 => h9) rfl (by decide +kernel) rfl rfl (Nat.le_of_ble_eq_true rfl) dMo_command_90 (fun H locs hP hD hS => ?_)
        have hP : va_P (dC, dI) vwCl (wMo dA mo ft lf1_6 hg1_27 kk 0 pn tk fm tO ((((tO - fm)))) I1_6 T1_27 S1_27 C1_27 L1_27 B1_27 F1_6 mU mX mP K1_6 mD mZ []) H := hP
        have hD : va_D A (wMo dA mo ft lf1_6 hg1_27 kk 0 pn tk fm tO ((((tO - fm)))) I1_6 T1_27 S1_27 C1_27 L1_27 B1_27 F1_6 mU mX mP K1_6 mD mZ []) := hD
        refine lv_iload_n hx hb dMo_command_93 rfl (lv_at hl 0 rfl) ?_
        exact rt_i hx hb hr hlocks hK hS dMo_command_94 (T1_27, S1_27, C1_27, L1_27, B1_27, mD, mZ, F1_6, mU, mX, 0, mP, pn, hg1_27, kk, K1_6, (((tO - fm))), I1_6, lf1_6) hP hD (show r27 = (stpA st).1 ∧ MA T1_27 S1_27 C1_27 L1_27 B1_27 hg1_27 kk F1_6 mU mX 0 mP pn (stpA st).2 ∧ MI I1_6 lf1_6 (stpA st).2 from by first | exact hfc.1 (by omega) | (have hz9 := hfc.2 (by omega); exact hz9) | (rw [stp_f hco (by decide)]; exact ⟨rfl, ⟨MH_c hMA.1 htl1.1 htl1.2.1 htl1.2.2.1 htl1.2.2.2.1, MX_0 rfl, MG_c hMA.2.2 htl1.2.2.2.2.1 htl1.2.2.2.2.2⟩, MI_c hq6.2.2 (hil1.1.trans hil2.1.symm) (hil1.2.trans hil2.2.symm)⟩))
  · have hc2 : c1 = 48 ∧ tO = fm + l1 ∧ (u1 = 0 ∨ 0 < tx) := by rcases hcs with z | z | z | z | z; exact absurd z.1 (by omega); exact z.2; exact absurd z.1 (by omega); exact absurd z.1 (by omega); exact absurd z.1 (by omega)
    have hnu9 := num_u (hc2.1 ▸ hma) (by omega)
    have hl1 : tO - fm = l1 := by omega
    have hco : comA st = numA (takA st (tO - fm)) (srD st) (tO - fm) := by rw [com_e hte.2.1 ((cmC_e hte.1 hte.2.2).2 (by omega)), hc2.1, hl1, (cmd_n (by rw [hl1] at htk; omega)).1]
    refine lv_aload_n hx hb dMo_command_14 rfl (lv_at hl 1 rfl) ?_
    refine cv_i (va_runV (C := "MacroReckonerModel") (As := []) (rest := []) ⟨hx, hb, hml, hown, hts⟩ (cMo_numeral l dC dI dA mo ft lf1_6 hg kk tx1_6 pn tk fm tO (((tO - fm))) I1_6 mT mS mC mL mB F1_6 mU mX mP K1_6 mD mZ ((takA st (tO - fm))) (srD st) (by exact hMA2.1) (by omega) (by exact hq6.1) (by exact ⟨hnu9.2.2.1, fun j x y => hnu9.2.2.2 j x (by omega)⟩) H.size) (cwV 0 hts (gdV wt4_183 wt4_185 ws4_0 wt1_8 wt4_186) rfl rfl rfl ⟨rfl, by decide, by decide, by decide +kernel⟩ ⟨by decide, by decide⟩) (preV (q := ("MacroReckonerModel", TMo, 23)) hK hP hD hS hA XN_ok trivial [0, 1, 2, 3, 4, 5, 6, 7, 8, 9, 10, 11, 12, 13] rfl rfl 0 rfl rfl) rfl rfl hl.1 rfl (lv_room (Nat.le_of_ble_eq_true rfl)) dMo_command_15 ⟨Nat.zero_le _, Nat.zero_le _⟩) hP hD hS hA [0, 1, 2, 3, 4, 5, 6, 7, 8, 9, 10, 11, 12, 13] [] rfl (fun v_ => wMo dA mo ft lf1_6 v_.2.2.2.2.2.2.2 kk tx1_6 pn tk fm tO ((((tO - fm)))) I1_6 v_.1 v_.2.1 v_.2.2.1 v_.2.2.2.1 v_.2.2.2.2.1 F1_6 mU mX mP K1_6 v_.2.2.2.2.2.1 v_.2.2.2.2.2.2.1 []) (fun _ => rfl) ([] : va_W) rfl (fun _ => rfl) [mo, mo + 1, mo + 2, mo + 3, mo + 4, mo + 5, mo + 6, mo + 7, mo + 8, mo + 9, mo + 10, mo + 11, mo + 12, mo + 13] rfl (fun _ => rfl) (fun _ => rfl) (fun r15 u_ H locs hq15 hP hD hS => ?_)
    obtain ⟨T1_15, S1_15, C1_15, L1_15, B1_15, D1_15, Z1_15, hg1_15⟩ := u_
    have hP : va_P (dC, dI) vwCl (wMo dA mo ft lf1_6 hg1_15 kk tx1_6 pn tk fm tO ((((tO - fm)))) I1_6 T1_15 S1_15 C1_15 L1_15 B1_15 F1_6 mU mX mP K1_6 D1_15 Z1_15 []) H := hP
    have hD : va_D A (wMo dA mo ft lf1_6 hg1_15 kk tx1_6 pn tk fm tO ((((tO - fm)))) I1_6 T1_15 S1_15 C1_15 L1_15 B1_15 F1_6 mU mX mP K1_6 D1_15 Z1_15 []) := hD
    have hq15 : r15 = (numA ((takA st (tO - fm))) (srD st) (((tO - fm)))).1 ∧ MH T1_15 S1_15 C1_15 L1_15 B1_15 hg1_15 kk (numA ((takA st (tO - fm))) (srD st) (((tO - fm)))).2 := hq15
    have hrb := num_b (st := takA st (tO - fm)) (D := srD st) (lg := tO - fm)
    rw [← hq15.1] at hrb
    have hno := num_o (D := srD st) (lg := tO - fm) hMA2.2.1 hMA2.2.2 hq6.2.2
    have hfc := fin_c hco hq15.1 ⟨hq15.2, hno.1, hno.2.1⟩ hno.2.2
    refine lv_goto (tgt := 76) hx hb dMo_command_18 (by decide) ?_
    refine lv_istore_n (lv' := [(2, .int (iI r15)), (1, .int (iI tk)), (0, .ref mo)]) hx hb dMo_command_76 rfl hl (by decide) rfl (fun ls hl => ?_)
    refine lv_aload_n hx hb dMo_command_77 rfl (lv_at hl 2 rfl) ?_
    refine lv_iload_n hx hb dMo_command_78 rfl (lv_at hl 0 rfl) ?_
    refine iv_if_ge (tgt := 86) hx hb dMo_command_79 (by decide) ⟨by omega, by omega⟩ (fun hc79 => ?_) (fun hc79 => ?_)
    · refine lv_aload_n hx hb dMo_command_86 rfl (lv_at hl 2 rfl) ?_
      refine va_get (D := (dC, dI)) (ci := 7) (v := .int (iI tx1_6)) (C := "MacroReckonerModel") (T := TMo) (N := 23) hx hb hts inMo hown hK hP 0 rfl rfl 10 (by decide) (hts _ wt4_68) (fun _ h9 => h9) rfl dMo_command_87 ?_
      refine va_put (D := (dC, dI)) (ci := 7) (v := .int (iI tx1_6)) (ty := .int) (C := "MacroReckonerModel") (T := TMo) (N := 23) hx hb hts inMo tyMo tyMo_ok nmMo hown hK hP hD hS 0 rfl rfl 10 (by decide) (hts _ wt4_68) (fun _ h9 => h9) rfl (by decide +kernel) rfl rfl (Nat.le_of_ble_eq_true rfl) dMo_command_90 (fun H locs hP hD hS => ?_)
      have hP : va_P (dC, dI) vwCl (wMo dA mo ft lf1_6 hg1_15 kk tx1_6 pn tk fm tO ((((tO - fm)))) I1_6 T1_15 S1_15 C1_15 L1_15 B1_15 F1_6 mU mX mP K1_6 D1_15 Z1_15 []) H := hP
      have hD : va_D A (wMo dA mo ft lf1_6 hg1_15 kk tx1_6 pn tk fm tO ((((tO - fm)))) I1_6 T1_15 S1_15 C1_15 L1_15 B1_15 F1_6 mU mX mP K1_6 D1_15 Z1_15 []) := hD
      refine lv_iload_n hx hb dMo_command_93 rfl (lv_at hl 0 rfl) ?_
      exact rt_i hx hb hr hlocks hK hS dMo_command_94 (T1_15, S1_15, C1_15, L1_15, B1_15, D1_15, Z1_15, F1_6, mU, mX, tx1_6, mP, pn, hg1_15, kk, K1_6, (((tO - fm))), I1_6, lf1_6) hP hD (show r15 = (stpA st).1 ∧ MA T1_15 S1_15 C1_15 L1_15 B1_15 hg1_15 kk F1_6 mU mX tx1_6 mP pn (stpA st).2 ∧ MI I1_6 lf1_6 (stpA st).2 from by first | exact hfc.1 (by omega) | (have hz9 := hfc.2 (by omega); exact hz9) | (rw [stp_f hco (by decide)]; exact ⟨rfl, ⟨MH_c hMA.1 htl1.1 htl1.2.1 htl1.2.2.1 htl1.2.2.2.1, MX_0 rfl, MG_c hMA.2.2 htl1.2.2.2.2.1 htl1.2.2.2.2.2⟩, MI_c hq6.2.2 (hil1.1.trans hil2.1.symm) (hil1.2.trans hil2.2.symm)⟩))
    · refine lv_iconst (v := iI 0) hx hb dMo_command_82 rfl ?_
      refine lv_goto (tgt := 90) hx hb dMo_command_83 (by decide) ?_
      refine va_put (D := (dC, dI)) (ci := 7) (v := .int (iI 0)) (ty := .int) (C := "MacroReckonerModel") (T := TMo) (N := 23) hx hb hts inMo tyMo tyMo_ok nmMo hown hK hP hD hS 0 rfl rfl 10 (by decide) (hts _ wt4_68) (fun _ h9 => h9) rfl (by decide +kernel) rfl rfl (Nat.le_of_ble_eq_true rfl) dMo_command_90 (fun H locs hP hD hS => ?_)
      have hP : va_P (dC, dI) vwCl (wMo dA mo ft lf1_6 hg1_15 kk 0 pn tk fm tO ((((tO - fm)))) I1_6 T1_15 S1_15 C1_15 L1_15 B1_15 F1_6 mU mX mP K1_6 D1_15 Z1_15 []) H := hP
      have hD : va_D A (wMo dA mo ft lf1_6 hg1_15 kk 0 pn tk fm tO ((((tO - fm)))) I1_6 T1_15 S1_15 C1_15 L1_15 B1_15 F1_6 mU mX mP K1_6 D1_15 Z1_15 []) := hD
      refine lv_iload_n hx hb dMo_command_93 rfl (lv_at hl 0 rfl) ?_
      exact rt_i hx hb hr hlocks hK hS dMo_command_94 (T1_15, S1_15, C1_15, L1_15, B1_15, D1_15, Z1_15, F1_6, mU, mX, 0, mP, pn, hg1_15, kk, K1_6, (((tO - fm))), I1_6, lf1_6) hP hD (show r15 = (stpA st).1 ∧ MA T1_15 S1_15 C1_15 L1_15 B1_15 hg1_15 kk F1_6 mU mX 0 mP pn (stpA st).2 ∧ MI I1_6 lf1_6 (stpA st).2 from by first | exact hfc.1 (by omega) | (have hz9 := hfc.2 (by omega); exact hz9) | (rw [stp_f hco (by decide)]; exact ⟨rfl, ⟨MH_c hMA.1 htl1.1 htl1.2.1 htl1.2.2.1 htl1.2.2.2.1, MX_0 rfl, MG_c hMA.2.2 htl1.2.2.2.2.1 htl1.2.2.2.2.2⟩, MI_c hq6.2.2 (hil1.1.trans hil2.1.symm) (hil1.2.trans hil2.2.symm)⟩))

theorem dMo_run_0 : decode prog_9_method_54_code 0 = .ok (.aload_n 0, 1) := by decide +kernel
theorem dMo_run_1 : decode prog_9_method_54_code 1 = .ok (.iload_n 1, 1) := by decide +kernel
theorem dMo_run_2 : decode prog_9_method_54_code 2 = .ok (.iconst 1, 1) := by decide +kernel
theorem dMo_run_3 : decode prog_9_method_54_code 3 = .ok (.if_icmp .lt 9, 3) := by decide +kernel
theorem dMo_run_6 : decode prog_9_method_54_code 6 = .ok (.iload_n 1, 1) := by decide +kernel
theorem dMo_run_7 : decode prog_9_method_54_code 7 = .ok (.bipush 100, 2) := by decide +kernel
theorem dMo_run_9 : decode prog_9_method_54_code 9 = .ok (.if_icmp .le 7, 3) := by decide +kernel
theorem dMo_run_12 : decode prog_9_method_54_code 12 = .ok (.iconst 1, 1) := by decide +kernel
theorem dMo_run_13 : decode prog_9_method_54_code 13 = .ok (.goto 4, 3) := by decide +kernel
theorem dMo_run_16 : decode prog_9_method_54_code 16 = .ok (.iconst 0, 1) := by decide +kernel
theorem dMo_run_17 : decode prog_9_method_54_code 17 = .ok (.putfield 50, 3) := by decide +kernel
theorem dMo_run_20 : decode prog_9_method_54_code 20 = .ok (.aload_n 0, 1) := by decide +kernel
theorem dMo_run_21 : decode prog_9_method_54_code 21 = .ok (.getfield 50, 3) := by decide +kernel
theorem dMo_run_24 : decode prog_9_method_54_code 24 = .ok (.ifCond .le 5, 3) := by decide +kernel
theorem dMo_run_27 : decode prog_9_method_54_code 27 = .ok (.iconst 0, 1) := by decide +kernel
theorem dMo_run_28 : decode prog_9_method_54_code 28 = .ok (.ireturn, 1) := by decide +kernel
theorem dMo_run_29 : decode prog_9_method_54_code 29 = .ok (.iconst 0, 1) := by decide +kernel
theorem dMo_run_30 : decode prog_9_method_54_code 30 = .ok (.istore_n 2, 1) := by decide +kernel
theorem dMo_run_31 : decode prog_9_method_54_code 31 = .ok (.iconst 0, 1) := by decide +kernel
theorem dMo_run_32 : decode prog_9_method_54_code 32 = .ok (.istore_n 3, 1) := by decide +kernel
theorem dMo_run_33 : decode prog_9_method_54_code 33 = .ok (.iload_n 3, 1) := by decide +kernel
theorem dMo_run_34 : decode prog_9_method_54_code 34 = .ok (.iload_n 1, 1) := by decide +kernel
theorem dMo_run_35 : decode prog_9_method_54_code 35 = .ok (.if_icmp .ge 25, 3) := by decide +kernel
theorem dMo_run_38 : decode prog_9_method_54_code 38 = .ok (.iload_n 2, 1) := by decide +kernel
theorem dMo_run_39 : decode prog_9_method_54_code 39 = .ok (.ifCond .ne 21, 3) := by decide +kernel
theorem dMo_run_42 : decode prog_9_method_54_code 42 = .ok (.aload_n 0, 1) := by decide +kernel
theorem dMo_run_43 : decode prog_9_method_54_code 43 = .ok (.invokevirtual 232, 3) := by decide +kernel
theorem dMo_run_46 : decode prog_9_method_54_code 46 = .ok (.ifCond .eq 14, 3) := by decide +kernel
theorem dMo_run_49 : decode prog_9_method_54_code 49 = .ok (.aload_n 0, 1) := by decide +kernel
theorem dMo_run_50 : decode prog_9_method_54_code 50 = .ok (.invokevirtual 236, 3) := by decide +kernel
theorem dMo_run_53 : decode prog_9_method_54_code 53 = .ok (.istore_n 2, 1) := by decide +kernel
theorem dMo_run_54 : decode prog_9_method_54_code 54 = .ok (.iinc 3 1, 3) := by decide +kernel
theorem dMo_run_57 : decode prog_9_method_54_code 57 = .ok (.goto (-24), 3) := by decide +kernel
theorem dMo_run_60 : decode prog_9_method_54_code 60 = .ok (.iconst 0, 1) := by decide +kernel
theorem dMo_run_61 : decode prog_9_method_54_code 61 = .ok (.istore_n 3, 1) := by decide +kernel
theorem dMo_run_62 : decode prog_9_method_54_code 62 = .ok (.iload_n 3, 1) := by decide +kernel
theorem dMo_run_63 : decode prog_9_method_54_code 63 = .ok (.aload_n 0, 1) := by decide +kernel
theorem dMo_run_64 : decode prog_9_method_54_code 64 = .ok (.getfield 123, 3) := by decide +kernel
theorem dMo_run_67 : decode prog_9_method_54_code 67 = .ok (.if_icmp .ge 20, 3) := by decide +kernel
theorem dMo_run_70 : decode prog_9_method_54_code 70 = .ok (.aload_n 0, 1) := by decide +kernel
theorem dMo_run_71 : decode prog_9_method_54_code 71 = .ok (.getfield 7, 3) := by decide +kernel
theorem dMo_run_74 : decode prog_9_method_54_code 74 = .ok (.iload_n 3, 1) := by decide +kernel
theorem dMo_run_75 : decode prog_9_method_54_code 75 = .ok (.iaload, 1) := by decide +kernel
theorem dMo_run_76 : decode prog_9_method_54_code 76 = .ok (.bipush 32, 2) := by decide +kernel
theorem dMo_run_78 : decode prog_9_method_54_code 78 = .ok (.if_icmp .ne 9, 3) := by decide +kernel
theorem dMo_run_81 : decode prog_9_method_54_code 81 = .ok (.iinc 3 1, 3) := by decide +kernel
theorem dMo_run_84 : decode prog_9_method_54_code 84 = .ok (.goto (-22), 3) := by decide +kernel
theorem dMo_run_87 : decode prog_9_method_54_code 87 = .ok (.aload_n 0, 1) := by decide +kernel
theorem dMo_run_88 : decode prog_9_method_54_code 88 = .ok (.iload_n 3, 1) := by decide +kernel
theorem dMo_run_89 : decode prog_9_method_54_code 89 = .ok (.invokevirtual 160, 3) := by decide +kernel
theorem dMo_run_92 : decode prog_9_method_54_code 92 = .ok (.iload_n 2, 1) := by decide +kernel
theorem dMo_run_93 : decode prog_9_method_54_code 93 = .ok (.ifCond .ge 7, 3) := by decide +kernel
theorem dMo_run_96 : decode prog_9_method_54_code 96 = .ok (.iload_n 2, 1) := by decide +kernel
theorem dMo_run_97 : decode prog_9_method_54_code 97 = .ok (.goto 26, 3) := by decide +kernel
theorem dMo_run_100 : decode prog_9_method_54_code 100 = .ok (.aload_n 0, 1) := by decide +kernel
theorem dMo_run_101 : decode prog_9_method_54_code 101 = .ok (.invokevirtual 232, 3) := by decide +kernel
theorem dMo_run_104 : decode prog_9_method_54_code 104 = .ok (.ifCond .eq 7, 3) := by decide +kernel
theorem dMo_run_107 : decode prog_9_method_54_code 107 = .ok (.iconst 1, 1) := by decide +kernel
theorem dMo_run_108 : decode prog_9_method_54_code 108 = .ok (.goto 15, 3) := by decide +kernel
theorem dMo_run_111 : decode prog_9_method_54_code 111 = .ok (.aload_n 0, 1) := by decide +kernel
theorem dMo_run_112 : decode prog_9_method_54_code 112 = .ok (.getfield 123, 3) := by decide +kernel
theorem dMo_run_115 : decode prog_9_method_54_code 115 = .ok (.ifCond .le 7, 3) := by decide +kernel
theorem dMo_run_118 : decode prog_9_method_54_code 118 = .ok (.iconst 2, 1) := by decide +kernel
theorem dMo_run_119 : decode prog_9_method_54_code 119 = .ok (.goto 4, 3) := by decide +kernel
theorem dMo_run_122 : decode prog_9_method_54_code 122 = .ok (.iconst 0, 1) := by decide +kernel
theorem dMo_run_123 : decode prog_9_method_54_code 123 = .ok (.ireturn, 1) := by decide +kernel
abbrev qMo_run (dC : Nat → ClassId) (dI : Nat → Nat → Nat) (dA : Nat → ClassId) (mo : Nat) (ft : Int) (lf : Int) (hg : Int) (kk : Int) (tx : Int) (pn : Int) (tk : Int) (fm : Int) (tO : Int) (tl : Int) (mI : Int → Int) (mT : Int → Int) (mS : Int → Int) (mC : Int → Int) (mL : Int → Int) (mB : Int → Int) (mF : Int → Int) (mU : Int → Int) (mX : Int → Int) (mP : Int → Int) (mK : Int → Int) (mD : Int → Int) (mZ : Int → Int) (st : AS) (n0 : Int) (A : Nat → Prop) : Array Value → State → Outcome → State → Prop := QI (dC, dI) vwCl (tyA dA) (fun (r : Int) (v_ : (Int → Int) × (Int → Int) × (Int → Int) × (Int → Int) × (Int → Int) × (Int → Int) × (Int → Int) × (Int → Int) × (Int → Int) × (Int → Int) × Int × (Int → Int) × Int × Int × Int × (Int → Int) × Int × (Int → Int) × Int × Int × Int × Int × Int) => ((n0 < 1 ∨ 100 < n0) ∧ v_.2.2.2.2.2.2.2.2.2.2.2.2.2.2.2.2.2.2.2.2.2.2 = 1 ∧ r = 0 ∧ MA v_.1 v_.2.1 v_.2.2.1 v_.2.2.2.1 v_.2.2.2.2.1 v_.2.2.2.2.2.2.2.2.2.2.2.2.2.1 v_.2.2.2.2.2.2.2.2.2.2.2.2.2.2.1 v_.2.2.2.2.2.2.2.1 v_.2.2.2.2.2.2.2.2.1 v_.2.2.2.2.2.2.2.2.2.1 v_.2.2.2.2.2.2.2.2.2.2.1 v_.2.2.2.2.2.2.2.2.2.2.2.1 v_.2.2.2.2.2.2.2.2.2.2.2.2.1 st ∧ MIx v_.2.2.2.2.2.2.2.2.2.2.2.2.2.2.2.2.2.1 v_.2.2.2.2.2.2.2.2.2.2.2.2.2.2.2.2.2.2.1 st) ∨ (1 ≤ n0 ∧ n0 ≤ 100 ∧ v_.2.2.2.2.2.2.2.2.2.2.2.2.2.2.2.2.2.2.2.2.2.2 = 0 ∧ r = ansA (lopA (strA st) n0.toNat) ∧ MA v_.1 v_.2.1 v_.2.2.1 v_.2.2.2.1 v_.2.2.2.2.1 v_.2.2.2.2.2.2.2.2.2.2.2.2.2.1 v_.2.2.2.2.2.2.2.2.2.2.2.2.2.2.1 v_.2.2.2.2.2.2.2.1 v_.2.2.2.2.2.2.2.2.1 v_.2.2.2.2.2.2.2.2.2.1 v_.2.2.2.2.2.2.2.2.2.2.1 v_.2.2.2.2.2.2.2.2.2.2.2.1 v_.2.2.2.2.2.2.2.2.2.2.2.2.1 (lopA (strA st) n0.toNat).2 ∧ MIx v_.2.2.2.2.2.2.2.2.2.2.2.2.2.2.2.2.2.1 v_.2.2.2.2.2.2.2.2.2.2.2.2.2.2.2.2.2.2.1 (lopA (strA st) n0.toNat).2)) (fun (v_ : (Int → Int) × (Int → Int) × (Int → Int) × (Int → Int) × (Int → Int) × (Int → Int) × (Int → Int) × (Int → Int) × (Int → Int) × (Int → Int) × Int × (Int → Int) × Int × Int × Int × (Int → Int) × Int × (Int → Int) × Int × Int × Int × Int × Int) => wMo dA mo v_.2.2.2.2.2.2.2.2.2.2.2.2.2.2.2.2.2.2.2.2.2.2 v_.2.2.2.2.2.2.2.2.2.2.2.2.2.2.2.2.2.2.1 v_.2.2.2.2.2.2.2.2.2.2.2.2.2.1 v_.2.2.2.2.2.2.2.2.2.2.2.2.2.2.1 v_.2.2.2.2.2.2.2.2.2.2.1 v_.2.2.2.2.2.2.2.2.2.2.2.2.1 v_.2.2.2.2.2.2.2.2.2.2.2.2.2.2.2.2.2.2.2.1 v_.2.2.2.2.2.2.2.2.2.2.2.2.2.2.2.2.2.2.2.2.1 v_.2.2.2.2.2.2.2.2.2.2.2.2.2.2.2.2.2.2.2.2.2.1 v_.2.2.2.2.2.2.2.2.2.2.2.2.2.2.2.2.1 v_.2.2.2.2.2.2.2.2.2.2.2.2.2.2.2.2.2.1 v_.1 v_.2.1 v_.2.2.1 v_.2.2.2.1 v_.2.2.2.2.1 v_.2.2.2.2.2.2.2.1 v_.2.2.2.2.2.2.2.2.1 v_.2.2.2.2.2.2.2.2.2.1 v_.2.2.2.2.2.2.2.2.2.2.2.1 v_.2.2.2.2.2.2.2.2.2.2.2.2.2.2.2.1 v_.2.2.2.2.2.1 v_.2.2.2.2.2.2.1 []) A
abbrev rmMo_run : Room := { frames := 7, cells := 0, slots := 0, locals := 165 }
set_option maxRecDepth 100000 in
set_option maxHeartbeats 1000000 in
theorem cMo_run (l : Launch) (dC : Nat → ClassId) (dI : Nat → Nat → Nat) (dA : Nat → ClassId) (mo : Nat) (ft : Int) (lf : Int) (hg : Int) (kk : Int) (tx : Int) (pn : Int) (tk : Int) (fm : Int) (tO : Int) (tl : Int) (mI : Int → Int) (mT : Int → Int) (mS : Int → Int) (mC : Int → Int) (mL : Int → Int) (mB : Int → Int) (mF : Int → Int) (mU : Int → Int) (mX : Int → Int) (mP : Int → Int) (mK : Int → Int) (mD : Int → Int) (mZ : Int → Int) (st : AS) (n0 : Int) (hMA : MA mT mS mC mL mB hg kk mF mU mX tx mP pn st) (hMI : MIx mI lf st) (hn0 : r32 n0) (sz : Nat) : Met l yMo_run wsMo_run rmMo_run (PC (dC, dI) vwCl (tyA dA) XN [.ref mo, .int (iI n0)] (wMo dA mo ft lf hg kk tx pn tk fm tO tl mI mT mS mC mL mB mF mU mX mP mK mD mZ []) sz) (qMo_run dC dI dA mo ft lf hg kk tx pn tk fm tO tl mI mT mS mC mL mB mF mU mX mP mK mD mZ st n0 (va_A (wMo dA mo ft lf hg kk tx pn tk fm tO tl mI mT mS mC mL mB mF mU mX mP mK mD mZ []) sz)) 0 0 (va_A (wMo dA mo ft lf hg kk tx pn tk fm tO tl mI mT mS mC mL mB mF mU mX mP mK mD mZ []) sz) := by
  refine met_of (cc := prog_9_method_54_code) (maxL := 4) (ret := (some .int)) (Qc := qMo_run dC dI dA mo ft lf hg kk tx pn tk fm tO tl mI mT mS mC mL mB mF mU mX mP mK mD mZ st n0) XN_ok (by decide) rfl (Nat.le_of_ble_eq_true rfl) ?_
  intro p e s m below meth c ls A hx hb hr hml hown hts hlocks hnm hK hP hD hA hX hS hl
  have hl : lv_has ls 4 [(0, .ref mo), (1, .int (iI n0))] := hl
  have hown : s.vm.findClass "MacroReckonerModel" = some m.cls := hown
  obtain ⟨H, hH⟩ : ∃ H : Heap, H = s.heap := ⟨_, rfl⟩
  obtain ⟨locs, hlo⟩ : ∃ L : List Loc, L = [] := ⟨_, rfl⟩
  have hP : va_P (dC, dI) vwCl (wMo dA mo ft lf hg kk tx pn tk fm tO tl mI mT mS mC mL mB mF mU mX mP mK mD mZ []) H := hH ▸ hP
  have hS : va_S A s.heap H locs := by rw [hH, hlo]; exact hS
  suffices hgo : W p l e rmMo_run s m [.ref mo, .int (iI n0)].toArray below meth c H locs 0 0 (MQ below (qMo_run dC dI dA mo ft lf hg kk tx pn tk fm tO tl mI mT mS mC mL mB mF mU mX mP mK mD mZ st n0 A) [.ref mo, .int (iI n0)].toArray s 0 0 A) (F0 m 0 ls []) by rw [hH, hlo] at hgo; exact hgo
  clear hH hlo
  refine lv_aload_n hx hb dMo_run_0 rfl (lv_at hl 0 rfl) ?_
  refine lv_iload_n hx hb dMo_run_1 rfl (lv_at hl 1 rfl) ?_
  refine lv_iconst (v := iI 1) hx hb dMo_run_2 rfl ?_
  refine iv_icmp_lt (tgt := 12) hx hb dMo_run_3 (by decide) ⟨by omega, by omega⟩ ⟨by decide, by decide⟩ (fun hc3 => ?_) (fun hc3 => ?_)
  · refine lv_iconst (v := iI 1) hx hb dMo_run_12 rfl ?_
    refine lv_goto (tgt := 17) hx hb dMo_run_13 (by decide) ?_
    refine va_put (D := (dC, dI)) (ci := 7) (v := .int (iI 1)) (ty := .int) (C := "MacroReckonerModel") (T := TMo) (N := 23) hx hb hts inMo tyMo tyMo_ok nmMo hown hK hP hD hS 0 rfl rfl 0 (by decide) (hts _ wt4_58) (fun _ h9 => h9) rfl (by decide +kernel) rfl rfl (Nat.le_of_ble_eq_true rfl) dMo_run_17 (fun H locs hP hD hS => ?_)
    have hP : va_P (dC, dI) vwCl (wMo dA mo 1 lf hg kk tx pn tk fm tO tl mI mT mS mC mL mB mF mU mX mP mK mD mZ []) H := hP
    have hD : va_D A (wMo dA mo 1 lf hg kk tx pn tk fm tO tl mI mT mS mC mL mB mF mU mX mP mK mD mZ []) := hD
    refine lv_aload_n hx hb dMo_run_20 rfl (lv_at hl 0 rfl) ?_
    refine va_get (D := (dC, dI)) (ci := 7) (v := .int (iI 1)) (C := "MacroReckonerModel") (T := TMo) (N := 23) hx hb hts inMo hown hK hP 0 rfl rfl 0 (by decide) (hts _ wt4_58) (fun _ h9 => h9) rfl dMo_run_21 ?_
    refine iv_if_le (tgt := 29) hx hb dMo_run_24 (by decide) ⟨by decide, by decide⟩ (fun hc24 => absurd hc24 (by omega)) (fun hc24 => ?_)
    refine lv_iconst (v := iI 0) hx hb dMo_run_27 rfl ?_
    exact rt_i hx hb hr hlocks hK hS dMo_run_28 (mT, mS, mC, mL, mB, mD, mZ, mF, mU, mX, tx, mP, pn, hg, kk, mK, tl, mI, lf, tk, fm, tO, 1) hP hD (show ((n0 < 1 ∨ 100 < n0) ∧ 1 = 1 ∧ 0 = 0 ∧ MA mT mS mC mL mB hg kk mF mU mX tx mP pn st ∧ MIx mI lf st) ∨ (1 ≤ n0 ∧ n0 ≤ 100 ∧ 1 = 0 ∧ 0 = ansA (lopA (strA st) n0.toNat) ∧ MA mT mS mC mL mB hg kk mF mU mX tx mP pn (lopA (strA st) n0.toNat).2 ∧ MIx mI lf (lopA (strA st) n0.toNat).2) from by exact Or.inl ⟨by omega, rfl, rfl, hMA, hMI⟩)
  · refine lv_iload_n hx hb dMo_run_6 rfl (lv_at hl 1 rfl) ?_
    refine lv_bipush (v := iI 100) hx hb dMo_run_7 (by decide) ?_
    refine iv_icmp_le (tgt := 16) hx hb dMo_run_9 (by decide) ⟨by omega, by omega⟩ ⟨by decide, by decide⟩ (fun hc9 => ?_) (fun hc9 => ?_)
    · refine lv_iconst (v := iI 0) hx hb dMo_run_16 rfl ?_
      refine va_put (D := (dC, dI)) (ci := 7) (v := .int (iI 0)) (ty := .int) (C := "MacroReckonerModel") (T := TMo) (N := 23) hx hb hts inMo tyMo tyMo_ok nmMo hown hK hP hD hS 0 rfl rfl 0 (by decide) (hts _ wt4_58) (fun _ h9 => h9) rfl (by decide +kernel) rfl rfl (Nat.le_of_ble_eq_true rfl) dMo_run_17 (fun H locs hP hD hS => ?_)
      have hP : va_P (dC, dI) vwCl (wMo dA mo 0 lf hg kk tx pn tk fm tO tl mI mT mS mC mL mB mF mU mX mP mK mD mZ []) H := hP
      have hD : va_D A (wMo dA mo 0 lf hg kk tx pn tk fm tO tl mI mT mS mC mL mB mF mU mX mP mK mD mZ []) := hD
      refine lv_aload_n hx hb dMo_run_20 rfl (lv_at hl 0 rfl) ?_
      refine va_get (D := (dC, dI)) (ci := 7) (v := .int (iI 0)) (C := "MacroReckonerModel") (T := TMo) (N := 23) hx hb hts inMo hown hK hP 0 rfl rfl 0 (by decide) (hts _ wt4_58) (fun _ h9 => h9) rfl dMo_run_21 ?_
      refine iv_if_le (tgt := 29) hx hb dMo_run_24 (by decide) ⟨by decide, by decide⟩ (fun hc24 => ?_) (fun hc24 => absurd hc24 (by omega))
      refine lv_iconst (v := iI 0) hx hb dMo_run_29 rfl ?_
      refine lv_istore_n (lv' := [(2, .int (iI 0)), (0, .ref mo), (1, .int (iI n0))]) hx hb dMo_run_30 rfl hl (by decide) rfl (fun ls hl => ?_)
      refine lv_iconst (v := iI 0) hx hb dMo_run_31 rfl ?_
      refine lv_istore_n (lv' := [(3, .int (iI 0)), (2, .int (iI 0)), (0, .ref mo), (1, .int (iI n0))]) hx hb dMo_run_32 rfl hl (by decide) rfl (fun ls hl => ?_)
      have L33 : ∀ (n : Nat) (T9 : Int → Int) (S9 : Int → Int) (C9 : Int → Int) (L9 : Int → Int) (B9 : Int → Int) (D9 : Int → Int) (Z9 : Int → Int) (F9 : Int → Int) (U9 : Int → Int) (X9 : Int → Int) (x9 : Int) (P9 : Int → Int) (p9 : Int) (h9 : Int) (k9 : Int) (K9 : Int → Int) (t9 : Int) (I9 : Int → Int) (l9 : Int) (tk9 : Int) (fm9 : Int) (tO9 : Int) (bd : Int) (j : Int) (s9 : AS) (H : Heap) (locs : List Loc) (ls : Array Slot), (0 ≤ j ∧ j ≤ n0) → (-10 ≤ bd ∧ bd ≤ 0) → (MA T9 S9 C9 L9 B9 h9 k9 F9 U9 X9 x9 P9 p9 s9) → (MI I9 l9 s9) → ((bd = 0 ∧ lopA (strA st) n0.toNat = lopA s9 (n0 - j).toNat) ∨ (bd < 0 ∧ lopA (strA st) n0.toNat = (bd, s9))) → (n0 - j).toNat < n → va_P (dC, dI) vwCl (wMo dA mo 0 l9 h9 k9 x9 p9 tk9 fm9 tO9 t9 I9 T9 S9 C9 L9 B9 F9 U9 X9 P9 K9 D9 Z9 []) H → va_D A (wMo dA mo 0 l9 h9 k9 x9 p9 tk9 fm9 tO9 t9 I9 T9 S9 C9 L9 B9 F9 U9 X9 P9 K9 D9 Z9 []) → va_S A s.heap H locs → lv_has ls 4 [(3, .int (iI j)), (2, .int (iI bd)), (0, .ref mo), (1, .int (iI n0))] → W p l e rmMo_run s m [.ref mo, .int (iI n0)].toArray below meth c H locs 0 0 (MQ below (qMo_run dC dI dA mo ft lf hg kk tx pn tk fm tO tl mI mT mS mC mL mB mF mU mX mP mK mD mZ st n0 A) [.ref mo, .int (iI n0)].toArray s 0 0 A) (F0 m 33 ls []) := by
        intro n
        induction n with
        | zero => intro T9 S9 C9 L9 B9 D9 Z9 F9 U9 X9 x9 P9 p9 h9 k9 K9 t9 I9 l9 tk9 fm9 tO9 bd j s9 H locs ls hj hbd hA9 hI9 hL hn; omega
        | succ n ih =>
          intro T9 S9 C9 L9 B9 D9 Z9 F9 U9 X9 x9 P9 p9 h9 k9 K9 t9 I9 l9 tk9 fm9 tO9 bd j s9 H locs ls hj hbd hA9 hI9 hL hn hP hD hS hl
          have hsr9 := sr_e hA9.2.1 hI9
          have hil9 := hI9.1
          have hxb := hA9.2.1.1
          have ih33 := ih
          refine lv_iload_n hx hb dMo_run_33 rfl (lv_at hl 0 rfl) ?_
          refine lv_iload_n hx hb dMo_run_34 rfl (lv_at hl 3 rfl) ?_
          have J60 : ∀ (tk8 : Int) (fm8 : Int) (tO8 : Int) (H : Heap) (locs : List Loc) (ls : Array Slot), (lopA (strA st) n0.toNat = (bd, s9)) → va_P (dC, dI) vwCl (wMo dA mo 0 l9 h9 k9 x9 p9 tk8 fm8 tO8 t9 I9 T9 S9 C9 L9 B9 F9 U9 X9 P9 K9 D9 Z9 []) H → va_D A (wMo dA mo 0 l9 h9 k9 x9 p9 tk8 fm8 tO8 t9 I9 T9 S9 C9 L9 B9 F9 U9 X9 P9 K9 D9 Z9 []) → va_S A s.heap H locs → lv_has ls 4 [(3, .int (iI j)), (2, .int (iI bd)), (0, .ref mo), (1, .int (iI n0))] → W p l e rmMo_run s m [.ref mo, .int (iI n0)].toArray below meth c H locs 0 0 (MQ below (qMo_run dC dI dA mo ft lf hg kk tx pn tk fm tO tl mI mT mS mC mL mB mF mU mX mP mK mD mZ st n0 A) [.ref mo, .int (iI n0)].toArray s 0 0 A) (F0 m 60 ls []) := by
            intro tk8 fm8 tO8 H locs ls hE hP hD hS hl
            refine lv_iconst (v := iI 0) hx hb dMo_run_60 rfl ?_
            refine lv_istore_n (lv' := [(3, .int (iI 0)), (2, .int (iI bd)), (0, .ref mo), (1, .int (iI n0))]) hx hb dMo_run_61 rfl hl (by decide) rfl (fun ls hl => ?_)
            have L62 : ∀ (n : Nat) (sp : Int) (H : Heap) (locs : List Loc) (ls : Array Slot), (0 ≤ sp ∧ sp ≤ l9) → (∀ i, 0 ≤ i → i < sp → I9 i = 32) → (l9 - sp).toNat < n → va_P (dC, dI) vwCl (wMo dA mo 0 l9 h9 k9 x9 p9 tk8 fm8 tO8 t9 I9 T9 S9 C9 L9 B9 F9 U9 X9 P9 K9 D9 Z9 []) H → va_D A (wMo dA mo 0 l9 h9 k9 x9 p9 tk8 fm8 tO8 t9 I9 T9 S9 C9 L9 B9 F9 U9 X9 P9 K9 D9 Z9 []) → va_S A s.heap H locs → lv_has ls 4 [(3, .int (iI sp)), (2, .int (iI bd)), (0, .ref mo), (1, .int (iI n0))] → W p l e rmMo_run s m [.ref mo, .int (iI n0)].toArray below meth c H locs 0 0 (MQ below (qMo_run dC dI dA mo ft lf hg kk tx pn tk fm tO tl mI mT mS mC mL mB mF mU mX mP mK mD mZ st n0 A) [.ref mo, .int (iI n0)].toArray s 0 0 A) (F0 m 62 ls []) := by
              intro n
              induction n with
              | zero => intro sp H locs ls hsp hsp2 hn; omega
              | succ n ih =>
                intro sp H locs ls hsp hsp2 hn hP hD hS hl
                have ih62 := ih
                refine lv_iload_n hx hb dMo_run_62 rfl (lv_at hl 0 rfl) ?_
                refine lv_aload_n hx hb dMo_run_63 rfl (lv_at hl 2 rfl) ?_
                refine va_get (D := (dC, dI)) (ci := 7) (v := .int (iI l9)) (C := "MacroReckonerModel") (T := TMo) (N := 23) hx hb hts inMo hown hK hP 0 rfl rfl 1 (by decide) (hts _ wt4_59) (fun _ h9 => h9) rfl dMo_run_64 ?_
                refine iv_icmp_ge (tgt := 87) hx hb dMo_run_67 (by decide) ⟨by omega, by omega⟩ ⟨by omega, by omega⟩ (fun hc67 => ?_) (fun hc67 => ?_)
                · have hks : skR I9 0 l9 sp := ⟨by omega, by omega, hsp2, fun z => by first | omega | (intro w; omega)⟩
                  refine lv_aload_n hx hb dMo_run_87 rfl (lv_at hl 2 rfl) ?_
                  refine lv_iload_n hx hb dMo_run_88 rfl (lv_at hl 0 rfl) ?_
                  refine cv_v (va_runV (C := "MacroReckonerModel") (As := [.int (iI sp)]) (rest := []) ⟨hx, hb, hml, hown, hts⟩ (cMo_lose l dC dI dA mo 0 l9 h9 k9 x9 p9 tk8 fm8 tO8 t9 I9 T9 S9 C9 L9 B9 F9 U9 X9 P9 K9 D9 Z9 sp (by omega) H.size) (cwV 1 hts (gdV wt4_179 wt4_181 ws3_15 wt1_8 wt4_182) rfl rfl rfl ⟨rfl, by decide, by decide, by decide +kernel⟩ ⟨by decide, by decide⟩) (preV (q := ("MacroReckonerModel", TMo, 23)) hK hP hD hS hA XN_ok trivial [0, 1, 2, 3, 4, 5, 6, 7, 8, 9, 10, 11, 12, 13] rfl rfl 0 rfl rfl) rfl rfl hl.1 rfl (lv_room (Nat.le_of_ble_eq_true rfl)) dMo_run_89 ⟨Nat.zero_le _, Nat.zero_le _⟩) hP hD hS hA [0, 1, 2, 3, 4, 5, 6, 7, 8, 9, 10, 11, 12, 13] [] rfl (fun v_ => wMo dA mo 0 ((l9 - sp)) h9 k9 x9 p9 tk8 fm8 tO8 t9 v_ T9 S9 C9 L9 B9 F9 U9 X9 P9 K9 D9 Z9 []) (fun _ => rfl) ([] : va_W) rfl (fun _ => rfl) [mo, mo + 1, mo + 2, mo + 3, mo + 4, mo + 5, mo + 6, mo + 7, mo + 8, mo + 9, mo + 10, mo + 11, mo + 12, mo + 13] rfl (fun _ => rfl) (fun _ => rfl) (fun u_ H locs hq89 hP hD hS => ?_)
                  obtain ⟨I1_89, rfl⟩ : ∃ z, z = u_ := ⟨_, rfl⟩
                  have hP : va_P (dC, dI) vwCl (wMo dA mo 0 ((l9 - sp)) h9 k9 x9 p9 tk8 fm8 tO8 t9 I1_89 T9 S9 C9 L9 B9 F9 U9 X9 P9 K9 D9 Z9 []) H := hP
                  have hD : va_D A (wMo dA mo 0 ((l9 - sp)) h9 k9 x9 p9 tk8 fm8 tO8 t9 I1_89 T9 S9 C9 L9 B9 F9 U9 X9 P9 K9 D9 Z9 []) := hD
                  have hq89 : ∀ j, 0 ≤ j → j < l9 - sp → I1_89 j = I9 (sp + j) := hq89
                  refine lv_iload_n hx hb dMo_run_92 rfl (lv_at hl 1 rfl) ?_
                  refine iv_if_ge (tgt := 100) hx hb dMo_run_93 (by decide) ⟨by omega, by omega⟩ (fun hc93 => ?_) (fun hc93 => ?_)
                  · have hMx := MI_ex (I1 := I1_89) hI9 hks (fun j x y => hq89 j x y)
                    have hM8 : MI I1_89 (l9 - sp) s9 := MIx_MI hMx (fun z => by rw [hq89 0 (by omega) z, Int.add_zero]; exact hks.2.2.2 (by omega))
                    have hsr8 := sr_e hA9.2.1 hM8
                    have hsil := hMx.2.2.1
                    refine lv_aload_n hx hb dMo_run_100 rfl (lv_at hl 2 rfl) ?_
                    refine cv_i (va_runV (C := "MacroReckonerModel") (As := []) (rest := []) ⟨hx, hb, hml, hown, hts⟩ (cMo_isCommand l dC dI dA mo 0 (((l9 - sp))) h9 k9 x9 p9 tk8 fm8 tO8 t9 I1_89 T9 S9 C9 L9 B9 F9 U9 X9 P9 K9 D9 Z9 ((if 0 < x9 then F9 (x9 - 1) else 0)) ((if 0 < x9 then U9 (x9 - 1) else l9 - sp)) (by exact hsr8) (by exact sr_c hA9.2.1 hM8 hsr8) H.size) (cwV 0 hts (gdV wt4_141 wt4_143 ws3_7 wt1_8 wt4_144) rfl rfl rfl ⟨rfl, by decide, by decide, by decide +kernel⟩ ⟨by decide, by decide⟩) (preV (q := ("MacroReckonerModel", TMo, 23)) hK hP hD hS hA XN_ok trivial [0, 1, 2, 3, 4, 5, 6, 7, 8, 9, 10, 11, 12, 13] rfl rfl 0 rfl rfl) rfl rfl hl.1 rfl (lv_room (Nat.le_of_ble_eq_true rfl)) dMo_run_101 ⟨Nat.zero_le _, Nat.zero_le _⟩) hP hD hS hA [0, 1, 2, 3, 4, 5, 6, 7, 8, 9, 10, 11, 12, 13] [] rfl (fun v_ => wMo dA mo 0 ((((l9 - sp)))) h9 k9 x9 p9 v_.1 v_.2.2 v_.2.1 t9 I1_89 T9 S9 C9 L9 B9 F9 U9 X9 P9 K9 D9 Z9 []) (fun _ => rfl) ([] : va_W) rfl (fun _ => rfl) [mo, mo + 1, mo + 2, mo + 3, mo + 4, mo + 5, mo + 6, mo + 7, mo + 8, mo + 9, mo + 10, mo + 11, mo + 12, mo + 13] rfl (fun _ => rfl) (fun _ => rfl) (fun r101 u_ H locs hq101 hP hD hS => ?_)
                    obtain ⟨tk1_101, tO1_101, fm1_101⟩ := u_
                    have hP : va_P (dC, dI) vwCl (wMo dA mo 0 ((((l9 - sp)))) h9 k9 x9 p9 tk1_101 fm1_101 tO1_101 t9 I1_89 T9 S9 C9 L9 B9 F9 U9 X9 P9 K9 D9 Z9 []) H := hP
                    have hD : va_D A (wMo dA mo 0 ((((l9 - sp)))) h9 k9 x9 p9 tk1_101 fm1_101 tO1_101 t9 I1_89 T9 S9 C9 L9 B9 F9 U9 X9 P9 K9 D9 Z9 []) := hD
                    have hq101 : lkR (gS x9 X9 I1_89) ((if 0 < x9 then F9 (x9 - 1) else 0)) ((if 0 < x9 then U9 (x9 - 1) else l9 - sp)) x9 fm1_101 tk1_101 tO1_101 ∧ ((r101 = 1 ∧ (1 < tk1_101 ∨ (tk1_101 = 1 ∧ 0 < x9))) ∨ (r101 = 0 ∧ ¬ (1 < tk1_101 ∨ (tk1_101 = 1 ∧ 0 < x9)))) := hq101
                    refine iv_if_eq (tgt := 111) hx hb dMo_run_104 (by decide) ⟨by omega, by omega⟩ (fun hc104 => ?_) (fun hc104 => ?_)
                    · refine lv_aload_n hx hb dMo_run_111 rfl (lv_at hl 2 rfl) ?_
                      refine va_get (D := (dC, dI)) (ci := 7) (v := .int (iI (((((l9 - sp))))))) (C := "MacroReckonerModel") (T := TMo) (N := 23) hx hb hts inMo hown hK hP 0 rfl rfl 1 (by decide) (hts _ wt4_59) (fun _ h9 => h9) rfl dMo_run_112 ?_
                      refine iv_if_le (tgt := 122) hx hb dMo_run_115 (by decide) ⟨by omega, by omega⟩ (fun hc115 => ?_) (fun hc115 => ?_)
                      · refine lv_iconst (v := iI 0) hx hb dMo_run_122 rfl ?_
                        exact rt_i hx hb hr hlocks hK hS dMo_run_123 (T9, S9, C9, L9, B9, D9, Z9, F9, U9, X9, x9, P9, p9, h9, k9, K9, t9, I1_89, (((l9 - sp))), tk1_101, fm1_101, tO1_101, 0) hP hD (show ((n0 < 1 ∨ 100 < n0) ∧ 0 = 1 ∧ 0 = 0 ∧ MA T9 S9 C9 L9 B9 h9 k9 F9 U9 X9 x9 P9 p9 st ∧ MIx I1_89 ((((l9 - sp)))) st) ∨ (1 ≤ n0 ∧ n0 ≤ 100 ∧ 0 = 0 ∧ 0 = ansA (lopA (strA st) n0.toNat) ∧ MA T9 S9 C9 L9 B9 h9 k9 F9 U9 X9 x9 P9 p9 (lopA (strA st) n0.toNat).2 ∧ MIx I1_89 ((((l9 - sp)))) (lopA (strA st) n0.toNat).2) from by refine Or.inr ⟨by omega, by omega, rfl, ?_⟩; rw [hE]; first | (refine ⟨(ans_f (by omega)).symm, hA9, MI_ex hI9 hks (fun j x y => hq89 j x y)⟩) | (have hb0 : bd = 0 := (by omega); have hie := isc_e hA9.2.1 hM8 hsr8 hq101.1; rw [hb0]; refine ⟨?_, hA9, hMx⟩; rcases hq101.2 with ⟨v, w⟩ | ⟨v, w⟩; (first | exact (ans_0.1 (hie.mpr w)).symm | (exfalso; omega)); (first | exact (ans_0.2.1 (fun q => w (hie.mp q)) (by omega)).symm | exact (ans_0.2.2 (fun q => w (hie.mp q)) (by omega)).symm | (exfalso; omega))))
                      · refine lv_iconst (v := iI 2) hx hb dMo_run_118 rfl ?_
                        refine lv_goto (tgt := 123) hx hb dMo_run_119 (by decide) ?_
                        exact rt_i hx hb hr hlocks hK hS dMo_run_123 (T9, S9, C9, L9, B9, D9, Z9, F9, U9, X9, x9, P9, p9, h9, k9, K9, t9, I1_89, (((l9 - sp))), tk1_101, fm1_101, tO1_101, 0) hP hD (show ((n0 < 1 ∨ 100 < n0) ∧ 0 = 1 ∧ 2 = 0 ∧ MA T9 S9 C9 L9 B9 h9 k9 F9 U9 X9 x9 P9 p9 st ∧ MIx I1_89 ((((l9 - sp)))) st) ∨ (1 ≤ n0 ∧ n0 ≤ 100 ∧ 0 = 0 ∧ 2 = ansA (lopA (strA st) n0.toNat) ∧ MA T9 S9 C9 L9 B9 h9 k9 F9 U9 X9 x9 P9 p9 (lopA (strA st) n0.toNat).2 ∧ MIx I1_89 ((((l9 - sp)))) (lopA (strA st) n0.toNat).2) from by refine Or.inr ⟨by omega, by omega, rfl, ?_⟩; rw [hE]; first | (refine ⟨(ans_f (by omega)).symm, hA9, MI_ex hI9 hks (fun j x y => hq89 j x y)⟩) | (have hb0 : bd = 0 := (by omega); have hie := isc_e hA9.2.1 hM8 hsr8 hq101.1; rw [hb0]; refine ⟨?_, hA9, hMx⟩; rcases hq101.2 with ⟨v, w⟩ | ⟨v, w⟩; (first | exact (ans_0.1 (hie.mpr w)).symm | (exfalso; omega)); (first | exact (ans_0.2.1 (fun q => w (hie.mp q)) (by omega)).symm | exact (ans_0.2.2 (fun q => w (hie.mp q)) (by omega)).symm | (exfalso; omega))))
                    · refine lv_iconst (v := iI 1) hx hb dMo_run_107 rfl ?_
                      refine lv_goto (tgt := 123) hx hb dMo_run_108 (by decide) ?_
                      exact rt_i hx hb hr hlocks hK hS dMo_run_123 (T9, S9, C9, L9, B9, D9, Z9, F9, U9, X9, x9, P9, p9, h9, k9, K9, t9, I1_89, (((l9 - sp))), tk1_101, fm1_101, tO1_101, 0) hP hD (show ((n0 < 1 ∨ 100 < n0) ∧ 0 = 1 ∧ 1 = 0 ∧ MA T9 S9 C9 L9 B9 h9 k9 F9 U9 X9 x9 P9 p9 st ∧ MIx I1_89 ((((l9 - sp)))) st) ∨ (1 ≤ n0 ∧ n0 ≤ 100 ∧ 0 = 0 ∧ 1 = ansA (lopA (strA st) n0.toNat) ∧ MA T9 S9 C9 L9 B9 h9 k9 F9 U9 X9 x9 P9 p9 (lopA (strA st) n0.toNat).2 ∧ MIx I1_89 ((((l9 - sp)))) (lopA (strA st) n0.toNat).2) from by refine Or.inr ⟨by omega, by omega, rfl, ?_⟩; rw [hE]; first | (refine ⟨(ans_f (by omega)).symm, hA9, MI_ex hI9 hks (fun j x y => hq89 j x y)⟩) | (have hb0 : bd = 0 := (by omega); have hie := isc_e hA9.2.1 hM8 hsr8 hq101.1; rw [hb0]; refine ⟨?_, hA9, hMx⟩; rcases hq101.2 with ⟨v, w⟩ | ⟨v, w⟩; (first | exact (ans_0.1 (hie.mpr w)).symm | (exfalso; omega)); (first | exact (ans_0.2.1 (fun q => w (hie.mp q)) (by omega)).symm | exact (ans_0.2.2 (fun q => w (hie.mp q)) (by omega)).symm | (exfalso; omega))))
                  · refine lv_iload_n hx hb dMo_run_96 rfl (lv_at hl 1 rfl) ?_
                    refine lv_goto (tgt := 123) hx hb dMo_run_97 (by decide) ?_
                    exact rt_i hx hb hr hlocks hK hS dMo_run_123 (T9, S9, C9, L9, B9, D9, Z9, F9, U9, X9, x9, P9, p9, h9, k9, K9, t9, I1_89, (l9 - sp), tk8, fm8, tO8, 0) hP hD (show ((n0 < 1 ∨ 100 < n0) ∧ 0 = 1 ∧ bd = 0 ∧ MA T9 S9 C9 L9 B9 h9 k9 F9 U9 X9 x9 P9 p9 st ∧ MIx I1_89 ((l9 - sp)) st) ∨ (1 ≤ n0 ∧ n0 ≤ 100 ∧ 0 = 0 ∧ bd = ansA (lopA (strA st) n0.toNat) ∧ MA T9 S9 C9 L9 B9 h9 k9 F9 U9 X9 x9 P9 p9 (lopA (strA st) n0.toNat).2 ∧ MIx I1_89 ((l9 - sp)) (lopA (strA st) n0.toNat).2) from by refine Or.inr ⟨by omega, by omega, rfl, ?_⟩; rw [hE]; first | (refine ⟨(ans_f (by omega)).symm, hA9, MI_ex hI9 hks (fun j x y => hq89 j x y)⟩) | (have hb0 : bd = 0 := (by omega); have hie := isc_e hA9.2.1 hM8 hsr8 hq101.1; rw [hb0]; refine ⟨?_, hA9, hMx⟩; rcases hq101.2 with ⟨v, w⟩ | ⟨v, w⟩; (first | exact (ans_0.1 (hie.mpr w)).symm | (exfalso; omega)); (first | exact (ans_0.2.1 (fun q => w (hie.mp q)) (by omega)).symm | exact (ans_0.2.2 (fun q => w (hie.mp q)) (by omega)).symm | (exfalso; omega))))
                · have hch9 := hI9.2.1 sp (by omega) (by omega)
                  refine lv_aload_n hx hb dMo_run_70 rfl (lv_at hl 2 rfl) ?_
                  refine va_get (D := (dC, dI)) (ci := 7) (v := .ref (mo + 1)) (C := "MacroReckonerModel") (T := TMo) (N := 23) hx hb hts inMo hown hK hP 0 rfl rfl 2 (by decide) (hts _ wt4_60) (fun _ h9 => h9) rfl dMo_run_71 ?_
                  refine lv_iload_n hx hb dMo_run_74 rfl (lv_at hl 0 rfl) ?_
                  refine iv_iald hx hb hK hP 1 0 rfl rfl (by decide) dMo_run_75 (by omega) (by omega) ?_
                  refine lv_bipush (v := iI 32) hx hb dMo_run_76 (by decide) ?_
                  refine iv_icmp_ne (tgt := 87) hx hb dMo_run_78 (by decide) ⟨by omega, by omega⟩ ⟨by decide, by decide⟩ (fun hc78 => ?_) (fun hc78 => ?_)
                  · have hks : skR I9 0 l9 sp := ⟨by omega, by omega, hsp2, fun z => by first | omega | (intro w; omega)⟩
                    refine lv_aload_n hx hb dMo_run_87 rfl (lv_at hl 2 rfl) ?_
                    refine lv_iload_n hx hb dMo_run_88 rfl (lv_at hl 0 rfl) ?_
                    refine cv_v (va_runV (C := "MacroReckonerModel") (As := [.int (iI sp)]) (rest := []) ⟨hx, hb, hml, hown, hts⟩ (cMo_lose l dC dI dA mo 0 l9 h9 k9 x9 p9 tk8 fm8 tO8 t9 I9 T9 S9 C9 L9 B9 F9 U9 X9 P9 K9 D9 Z9 sp (by omega) H.size) (cwV 1 hts (gdV wt4_179 wt4_181 ws3_15 wt1_8 wt4_182) rfl rfl rfl ⟨rfl, by decide, by decide, by decide +kernel⟩ ⟨by decide, by decide⟩) (preV (q := ("MacroReckonerModel", TMo, 23)) hK hP hD hS hA XN_ok trivial [0, 1, 2, 3, 4, 5, 6, 7, 8, 9, 10, 11, 12, 13] rfl rfl 0 rfl rfl) rfl rfl hl.1 rfl (lv_room (Nat.le_of_ble_eq_true rfl)) dMo_run_89 ⟨Nat.zero_le _, Nat.zero_le _⟩) hP hD hS hA [0, 1, 2, 3, 4, 5, 6, 7, 8, 9, 10, 11, 12, 13] [] rfl (fun v_ => wMo dA mo 0 ((l9 - sp)) h9 k9 x9 p9 tk8 fm8 tO8 t9 v_ T9 S9 C9 L9 B9 F9 U9 X9 P9 K9 D9 Z9 []) (fun _ => rfl) ([] : va_W) rfl (fun _ => rfl) [mo, mo + 1, mo + 2, mo + 3, mo + 4, mo + 5, mo + 6, mo + 7, mo + 8, mo + 9, mo + 10, mo + 11, mo + 12, mo + 13] rfl (fun _ => rfl) (fun _ => rfl) (fun u_ H locs hq89 hP hD hS => ?_)
                    obtain ⟨I1_89, rfl⟩ : ∃ z, z = u_ := ⟨_, rfl⟩
                    have hP : va_P (dC, dI) vwCl (wMo dA mo 0 ((l9 - sp)) h9 k9 x9 p9 tk8 fm8 tO8 t9 I1_89 T9 S9 C9 L9 B9 F9 U9 X9 P9 K9 D9 Z9 []) H := hP
                    have hD : va_D A (wMo dA mo 0 ((l9 - sp)) h9 k9 x9 p9 tk8 fm8 tO8 t9 I1_89 T9 S9 C9 L9 B9 F9 U9 X9 P9 K9 D9 Z9 []) := hD
                    have hq89 : ∀ j, 0 ≤ j → j < l9 - sp → I1_89 j = I9 (sp + j) := hq89
                    refine lv_iload_n hx hb dMo_run_92 rfl (lv_at hl 1 rfl) ?_
                    refine iv_if_ge (tgt := 100) hx hb dMo_run_93 (by decide) ⟨by omega, by omega⟩ (fun hc93 => ?_) (fun hc93 => ?_)
                    · have hMx := MI_ex (I1 := I1_89) hI9 hks (fun j x y => hq89 j x y)
                      have hM8 : MI I1_89 (l9 - sp) s9 := MIx_MI hMx (fun z => by rw [hq89 0 (by omega) z, Int.add_zero]; exact hks.2.2.2 (by omega))
                      have hsr8 := sr_e hA9.2.1 hM8
                      have hsil := hMx.2.2.1
                      refine lv_aload_n hx hb dMo_run_100 rfl (lv_at hl 2 rfl) ?_
                      refine cv_i (va_runV (C := "MacroReckonerModel") (As := []) (rest := []) ⟨hx, hb, hml, hown, hts⟩ (cMo_isCommand l dC dI dA mo 0 (((l9 - sp))) h9 k9 x9 p9 tk8 fm8 tO8 t9 I1_89 T9 S9 C9 L9 B9 F9 U9 X9 P9 K9 D9 Z9 ((if 0 < x9 then F9 (x9 - 1) else 0)) ((if 0 < x9 then U9 (x9 - 1) else l9 - sp)) (by exact hsr8) (by exact sr_c hA9.2.1 hM8 hsr8) H.size) (cwV 0 hts (gdV wt4_141 wt4_143 ws3_7 wt1_8 wt4_144) rfl rfl rfl ⟨rfl, by decide, by decide, by decide +kernel⟩ ⟨by decide, by decide⟩) (preV (q := ("MacroReckonerModel", TMo, 23)) hK hP hD hS hA XN_ok trivial [0, 1, 2, 3, 4, 5, 6, 7, 8, 9, 10, 11, 12, 13] rfl rfl 0 rfl rfl) rfl rfl hl.1 rfl (lv_room (Nat.le_of_ble_eq_true rfl)) dMo_run_101 ⟨Nat.zero_le _, Nat.zero_le _⟩) hP hD hS hA [0, 1, 2, 3, 4, 5, 6, 7, 8, 9, 10, 11, 12, 13] [] rfl (fun v_ => wMo dA mo 0 ((((l9 - sp)))) h9 k9 x9 p9 v_.1 v_.2.2 v_.2.1 t9 I1_89 T9 S9 C9 L9 B9 F9 U9 X9 P9 K9 D9 Z9 []) (fun _ => rfl) ([] : va_W) rfl (fun _ => rfl) [mo, mo + 1, mo + 2, mo + 3, mo + 4, mo + 5, mo + 6, mo + 7, mo + 8, mo + 9, mo + 10, mo + 11, mo + 12, mo + 13] rfl (fun _ => rfl) (fun _ => rfl) (fun r101 u_ H locs hq101 hP hD hS => ?_)
                      obtain ⟨tk1_101, tO1_101, fm1_101⟩ := u_
                      have hP : va_P (dC, dI) vwCl (wMo dA mo 0 ((((l9 - sp)))) h9 k9 x9 p9 tk1_101 fm1_101 tO1_101 t9 I1_89 T9 S9 C9 L9 B9 F9 U9 X9 P9 K9 D9 Z9 []) H := hP
                      have hD : va_D A (wMo dA mo 0 ((((l9 - sp)))) h9 k9 x9 p9 tk1_101 fm1_101 tO1_101 t9 I1_89 T9 S9 C9 L9 B9 F9 U9 X9 P9 K9 D9 Z9 []) := hD
                      have hq101 : lkR (gS x9 X9 I1_89) ((if 0 < x9 then F9 (x9 - 1) else 0)) ((if 0 < x9 then U9 (x9 - 1) else l9 - sp)) x9 fm1_101 tk1_101 tO1_101 ∧ ((r101 = 1 ∧ (1 < tk1_101 ∨ (tk1_101 = 1 ∧ 0 < x9))) ∨ (r101 = 0 ∧ ¬ (1 < tk1_101 ∨ (tk1_101 = 1 ∧ 0 < x9)))) := hq101
                      refine iv_if_eq (tgt := 111) hx hb dMo_run_104 (by decide) ⟨by omega, by omega⟩ (fun hc104 => ?_) (fun hc104 => ?_)
                      · refine lv_aload_n hx hb dMo_run_111 rfl (lv_at hl 2 rfl) ?_
                        refine va_get (D := (dC, dI)) (ci := 7) (v := .int (iI (((((l9 - sp))))))) (C := "MacroReckonerModel") (T := TMo) (N := 23) hx hb hts inMo hown hK hP 0 rfl rfl 1 (by decide) (hts _ wt4_59) (fun _ h9 => h9) rfl dMo_run_112 ?_
                        refine iv_if_le (tgt := 122) hx hb dMo_run_115 (by decide) ⟨by omega, by omega⟩ (fun hc115 => ?_) (fun hc115 => ?_)
                        · refine lv_iconst (v := iI 0) hx hb dMo_run_122 rfl ?_
                          exact rt_i hx hb hr hlocks hK hS dMo_run_123 (T9, S9, C9, L9, B9, D9, Z9, F9, U9, X9, x9, P9, p9, h9, k9, K9, t9, I1_89, (((l9 - sp))), tk1_101, fm1_101, tO1_101, 0) hP hD (show ((n0 < 1 ∨ 100 < n0) ∧ 0 = 1 ∧ 0 = 0 ∧ MA T9 S9 C9 L9 B9 h9 k9 F9 U9 X9 x9 P9 p9 st ∧ MIx I1_89 ((((l9 - sp)))) st) ∨ (1 ≤ n0 ∧ n0 ≤ 100 ∧ 0 = 0 ∧ 0 = ansA (lopA (strA st) n0.toNat) ∧ MA T9 S9 C9 L9 B9 h9 k9 F9 U9 X9 x9 P9 p9 (lopA (strA st) n0.toNat).2 ∧ MIx I1_89 ((((l9 - sp)))) (lopA (strA st) n0.toNat).2) from by refine Or.inr ⟨by omega, by omega, rfl, ?_⟩; rw [hE]; first | (refine ⟨(ans_f (by omega)).symm, hA9, MI_ex hI9 hks (fun j x y => hq89 j x y)⟩) | (have hb0 : bd = 0 := (by omega); have hie := isc_e hA9.2.1 hM8 hsr8 hq101.1; rw [hb0]; refine ⟨?_, hA9, hMx⟩; rcases hq101.2 with ⟨v, w⟩ | ⟨v, w⟩; (first | exact (ans_0.1 (hie.mpr w)).symm | (exfalso; omega)); (first | exact (ans_0.2.1 (fun q => w (hie.mp q)) (by omega)).symm | exact (ans_0.2.2 (fun q => w (hie.mp q)) (by omega)).symm | (exfalso; omega))))
                        · refine lv_iconst (v := iI 2) hx hb dMo_run_118 rfl ?_
                          refine lv_goto (tgt := 123) hx hb dMo_run_119 (by decide) ?_
                          exact rt_i hx hb hr hlocks hK hS dMo_run_123 (T9, S9, C9, L9, B9, D9, Z9, F9, U9, X9, x9, P9, p9, h9, k9, K9, t9, I1_89, (((l9 - sp))), tk1_101, fm1_101, tO1_101, 0) hP hD (show ((n0 < 1 ∨ 100 < n0) ∧ 0 = 1 ∧ 2 = 0 ∧ MA T9 S9 C9 L9 B9 h9 k9 F9 U9 X9 x9 P9 p9 st ∧ MIx I1_89 ((((l9 - sp)))) st) ∨ (1 ≤ n0 ∧ n0 ≤ 100 ∧ 0 = 0 ∧ 2 = ansA (lopA (strA st) n0.toNat) ∧ MA T9 S9 C9 L9 B9 h9 k9 F9 U9 X9 x9 P9 p9 (lopA (strA st) n0.toNat).2 ∧ MIx I1_89 ((((l9 - sp)))) (lopA (strA st) n0.toNat).2) from by refine Or.inr ⟨by omega, by omega, rfl, ?_⟩; rw [hE]; first | (refine ⟨(ans_f (by omega)).symm, hA9, MI_ex hI9 hks (fun j x y => hq89 j x y)⟩) | (have hb0 : bd = 0 := (by omega); have hie := isc_e hA9.2.1 hM8 hsr8 hq101.1; rw [hb0]; refine ⟨?_, hA9, hMx⟩; rcases hq101.2 with ⟨v, w⟩ | ⟨v, w⟩; (first | exact (ans_0.1 (hie.mpr w)).symm | (exfalso; omega)); (first | exact (ans_0.2.1 (fun q => w (hie.mp q)) (by omega)).symm | exact (ans_0.2.2 (fun q => w (hie.mp q)) (by omega)).symm | (exfalso; omega))))
                      · refine lv_iconst (v := iI 1) hx hb dMo_run_107 rfl ?_
                        refine lv_goto (tgt := 123) hx hb dMo_run_108 (by decide) ?_
                        exact rt_i hx hb hr hlocks hK hS dMo_run_123 (T9, S9, C9, L9, B9, D9, Z9, F9, U9, X9, x9, P9, p9, h9, k9, K9, t9, I1_89, (((l9 - sp))), tk1_101, fm1_101, tO1_101, 0) hP hD (show ((n0 < 1 ∨ 100 < n0) ∧ 0 = 1 ∧ 1 = 0 ∧ MA T9 S9 C9 L9 B9 h9 k9 F9 U9 X9 x9 P9 p9 st ∧ MIx I1_89 ((((l9 - sp)))) st) ∨ (1 ≤ n0 ∧ n0 ≤ 100 ∧ 0 = 0 ∧ 1 = ansA (lopA (strA st) n0.toNat) ∧ MA T9 S9 C9 L9 B9 h9 k9 F9 U9 X9 x9 P9 p9 (lopA (strA st) n0.toNat).2 ∧ MIx I1_89 ((((l9 - sp)))) (lopA (strA st) n0.toNat).2) from by refine Or.inr ⟨by omega, by omega, rfl, ?_⟩; rw [hE]; first | (refine ⟨(ans_f (by omega)).symm, hA9, MI_ex hI9 hks (fun j x y => hq89 j x y)⟩) | (have hb0 : bd = 0 := (by omega); have hie := isc_e hA9.2.1 hM8 hsr8 hq101.1; rw [hb0]; refine ⟨?_, hA9, hMx⟩; rcases hq101.2 with ⟨v, w⟩ | ⟨v, w⟩; (first | exact (ans_0.1 (hie.mpr w)).symm | (exfalso; omega)); (first | exact (ans_0.2.1 (fun q => w (hie.mp q)) (by omega)).symm | exact (ans_0.2.2 (fun q => w (hie.mp q)) (by omega)).symm | (exfalso; omega))))
                    · refine lv_iload_n hx hb dMo_run_96 rfl (lv_at hl 1 rfl) ?_
                      refine lv_goto (tgt := 123) hx hb dMo_run_97 (by decide) ?_
                      exact rt_i hx hb hr hlocks hK hS dMo_run_123 (T9, S9, C9, L9, B9, D9, Z9, F9, U9, X9, x9, P9, p9, h9, k9, K9, t9, I1_89, (l9 - sp), tk8, fm8, tO8, 0) hP hD (show ((n0 < 1 ∨ 100 < n0) ∧ 0 = 1 ∧ bd = 0 ∧ MA T9 S9 C9 L9 B9 h9 k9 F9 U9 X9 x9 P9 p9 st ∧ MIx I1_89 ((l9 - sp)) st) ∨ (1 ≤ n0 ∧ n0 ≤ 100 ∧ 0 = 0 ∧ bd = ansA (lopA (strA st) n0.toNat) ∧ MA T9 S9 C9 L9 B9 h9 k9 F9 U9 X9 x9 P9 p9 (lopA (strA st) n0.toNat).2 ∧ MIx I1_89 ((l9 - sp)) (lopA (strA st) n0.toNat).2) from by refine Or.inr ⟨by omega, by omega, rfl, ?_⟩; rw [hE]; first | (refine ⟨(ans_f (by omega)).symm, hA9, MI_ex hI9 hks (fun j x y => hq89 j x y)⟩) | (have hb0 : bd = 0 := (by omega); have hie := isc_e hA9.2.1 hM8 hsr8 hq101.1; rw [hb0]; refine ⟨?_, hA9, hMx⟩; rcases hq101.2 with ⟨v, w⟩ | ⟨v, w⟩; (first | exact (ans_0.1 (hie.mpr w)).symm | (exfalso; omega)); (first | exact (ans_0.2.1 (fun q => w (hie.mp q)) (by omega)).symm | exact (ans_0.2.2 (fun q => w (hie.mp q)) (by omega)).symm | (exfalso; omega))))
                  · refine lv_iinc (k := 0) (lv' := [(3, .int (iI (sp + 1))), (2, .int (iI bd)), (0, .ref mo), (1, .int (iI n0))]) (v := iI (sp + 1)) hx hb dMo_run_81 hl rfl (iI_add _ _).symm (by decide) rfl (fun ls hl => ?_)
                    refine lv_goto (tgt := 62) hx hb dMo_run_84 (by decide) ?_
                    exact ih62 (sp + 1) H locs ls (by omega) (by intro i x y; rcases (show i < sp ∨ i = sp by omega) with z | z; exact hsp2 i x z; rw [z]; omega) (by omega) hP hD hS (lv_sub hl [0, 1, 2, 3] rfl)
            exact L62 _ 0 H locs ls (by omega) (by intro i x y; omega) (Nat.lt_succ_self _) hP hD hS (lv_sub hl [0, 1, 2, 3] rfl)
          refine iv_icmp_ge (tgt := 60) hx hb dMo_run_35 (by decide) ⟨by omega, by omega⟩ ⟨by omega, by omega⟩ (fun hc35 => ?_) (fun hc35 => ?_)
          · exact J60 tk9 fm9 tO9 H locs ls (by rcases hL with ⟨z1, z2⟩ | ⟨z1, z2⟩; (rw [z2, z1]; first | (rw [show n0 - j = 0 by omega]; exact lop_0) | exact lop_n (fun w => by have h := (isc_e hA9.2.1 hI9 hsr9 hq43.1).mp w; rcases hq43.2 with ⟨v, -⟩ | ⟨-, v⟩; omega; exact v h) | (exfalso; omega)); exact z2) hP hD hS (lv_sub hl [0, 1, 2, 3] rfl)
          · refine lv_iload_n hx hb dMo_run_38 rfl (lv_at hl 1 rfl) ?_
            refine iv_if_ne (tgt := 60) hx hb dMo_run_39 (by decide) ⟨by omega, by omega⟩ (fun hc39 => ?_) (fun hc39 => ?_)
            · exact J60 tk9 fm9 tO9 H locs ls (by rcases hL with ⟨z1, z2⟩ | ⟨z1, z2⟩; (rw [z2, z1]; first | (rw [show n0 - j = 0 by omega]; exact lop_0) | exact lop_n (fun w => by have h := (isc_e hA9.2.1 hI9 hsr9 hq43.1).mp w; rcases hq43.2 with ⟨v, -⟩ | ⟨-, v⟩; omega; exact v h) | (exfalso; omega)); exact z2) hP hD hS (lv_sub hl [0, 1, 2, 3] rfl)
            · refine lv_aload_n hx hb dMo_run_42 rfl (lv_at hl 2 rfl) ?_
              refine cv_i (va_runV (C := "MacroReckonerModel") (As := []) (rest := []) ⟨hx, hb, hml, hown, hts⟩ (cMo_isCommand l dC dI dA mo 0 l9 h9 k9 x9 p9 tk9 fm9 tO9 t9 I9 T9 S9 C9 L9 B9 F9 U9 X9 P9 K9 D9 Z9 ((if 0 < x9 then F9 (x9 - 1) else 0)) ((if 0 < x9 then U9 (x9 - 1) else l9)) (by exact hsr9) (by exact sr_c hA9.2.1 hI9 hsr9) H.size) (cwV 0 hts (gdV wt4_141 wt4_143 ws3_7 wt1_8 wt4_144) rfl rfl rfl ⟨rfl, by decide, by decide, by decide +kernel⟩ ⟨by decide, by decide⟩) (preV (q := ("MacroReckonerModel", TMo, 23)) hK hP hD hS hA XN_ok trivial [0, 1, 2, 3, 4, 5, 6, 7, 8, 9, 10, 11, 12, 13] rfl rfl 0 rfl rfl) rfl rfl hl.1 rfl (lv_room (Nat.le_of_ble_eq_true rfl)) dMo_run_43 ⟨Nat.zero_le _, Nat.zero_le _⟩) hP hD hS hA [0, 1, 2, 3, 4, 5, 6, 7, 8, 9, 10, 11, 12, 13] [] rfl (fun v_ => wMo dA mo 0 l9 h9 k9 x9 p9 v_.1 v_.2.2 v_.2.1 t9 I9 T9 S9 C9 L9 B9 F9 U9 X9 P9 K9 D9 Z9 []) (fun _ => rfl) ([] : va_W) rfl (fun _ => rfl) [mo, mo + 1, mo + 2, mo + 3, mo + 4, mo + 5, mo + 6, mo + 7, mo + 8, mo + 9, mo + 10, mo + 11, mo + 12, mo + 13] rfl (fun _ => rfl) (fun _ => rfl) (fun r43 u_ H locs hq43 hP hD hS => ?_)
              obtain ⟨tk1_43, tO1_43, fm1_43⟩ := u_
              have hP : va_P (dC, dI) vwCl (wMo dA mo 0 l9 h9 k9 x9 p9 tk1_43 fm1_43 tO1_43 t9 I9 T9 S9 C9 L9 B9 F9 U9 X9 P9 K9 D9 Z9 []) H := hP
              have hD : va_D A (wMo dA mo 0 l9 h9 k9 x9 p9 tk1_43 fm1_43 tO1_43 t9 I9 T9 S9 C9 L9 B9 F9 U9 X9 P9 K9 D9 Z9 []) := hD
              have hq43 : lkR (gS x9 X9 I9) ((if 0 < x9 then F9 (x9 - 1) else 0)) ((if 0 < x9 then U9 (x9 - 1) else l9)) x9 fm1_43 tk1_43 tO1_43 ∧ ((r43 = 1 ∧ (1 < tk1_43 ∨ (tk1_43 = 1 ∧ 0 < x9))) ∨ (r43 = 0 ∧ ¬ (1 < tk1_43 ∨ (tk1_43 = 1 ∧ 0 < x9)))) := hq43
              refine iv_if_eq (tgt := 60) hx hb dMo_run_46 (by decide) ⟨by omega, by omega⟩ (fun hc46 => ?_) (fun hc46 => ?_)
              · exact J60 tk1_43 fm1_43 tO1_43 H locs ls (by rcases hL with ⟨z1, z2⟩ | ⟨z1, z2⟩; (rw [z2, z1]; first | (rw [show n0 - j = 0 by omega]; exact lop_0) | exact lop_n (fun w => by have h := (isc_e hA9.2.1 hI9 hsr9 hq43.1).mp w; rcases hq43.2 with ⟨v, -⟩ | ⟨-, v⟩; omega; exact v h) | (exfalso; omega)); exact z2) hP hD hS (lv_sub hl [0, 1, 2, 3] rfl)
              · have hcm9 : 1 < tk1_43 ∨ (tk1_43 = 1 ∧ 0 < x9) := by rcases hq43.2 with ⟨-, z⟩ | ⟨z, -⟩; exact z; omega
                have hisc : isC s9 := (isc_e hA9.2.1 hI9 hsr9 hq43.1).mpr hcm9
                refine lv_aload_n hx hb dMo_run_49 rfl (lv_at hl 2 rfl) ?_
                refine cv_i (va_runV (C := "MacroReckonerModel") (As := []) (rest := []) ⟨hx, hb, hml, hown, hts⟩ (cMo_command l dC dI dA mo 0 l9 h9 k9 x9 p9 tk1_43 fm1_43 tO1_43 t9 I9 T9 S9 C9 L9 B9 F9 U9 X9 P9 K9 D9 Z9 s9 ((if 0 < x9 then F9 (x9 - 1) else 0)) ((if 0 < x9 then U9 (x9 - 1) else l9)) (by exact hA9) (by exact hI9) (by exact hsr9) (by exact hq43.1) (by exact hcm9) H.size) (cwV 0 hts (gdV wt4_167 wt4_169 ws3_12 wt1_8 wt4_170) rfl rfl rfl ⟨rfl, by decide, by decide, by decide +kernel⟩ ⟨by decide, by decide⟩) (preV (q := ("MacroReckonerModel", TMo, 23)) hK hP hD hS hA XN_ok trivial [0, 1, 2, 3, 4, 5, 6, 7, 8, 9, 10, 11, 12, 13] rfl rfl 0 rfl rfl) rfl rfl hl.1 rfl (lv_room (Nat.le_of_ble_eq_true rfl)) dMo_run_50 ⟨Nat.zero_le _, Nat.zero_le _⟩) hP hD hS hA [0, 1, 2, 3, 4, 5, 6, 7, 8, 9, 10, 11, 12, 13] [] rfl (fun v_ => wMo dA mo 0 v_.2.2.2.2.2.2.2.2.2.2.2.2.2.2.2.2.2.2 v_.2.2.2.2.2.2.2.2.2.2.2.2.2.1 v_.2.2.2.2.2.2.2.2.2.2.2.2.2.2.1 v_.2.2.2.2.2.2.2.2.2.2.1 v_.2.2.2.2.2.2.2.2.2.2.2.2.1 tk1_43 fm1_43 tO1_43 v_.2.2.2.2.2.2.2.2.2.2.2.2.2.2.2.2.1 v_.2.2.2.2.2.2.2.2.2.2.2.2.2.2.2.2.2.1 v_.1 v_.2.1 v_.2.2.1 v_.2.2.2.1 v_.2.2.2.2.1 v_.2.2.2.2.2.2.2.1 v_.2.2.2.2.2.2.2.2.1 v_.2.2.2.2.2.2.2.2.2.1 v_.2.2.2.2.2.2.2.2.2.2.2.1 v_.2.2.2.2.2.2.2.2.2.2.2.2.2.2.2.1 v_.2.2.2.2.2.1 v_.2.2.2.2.2.2.1 []) (fun _ => rfl) ([] : va_W) rfl (fun _ => rfl) [mo, mo + 1, mo + 2, mo + 3, mo + 4, mo + 5, mo + 6, mo + 7, mo + 8, mo + 9, mo + 10, mo + 11, mo + 12, mo + 13] rfl (fun _ => rfl) (fun _ => rfl) (fun r50 u_ H locs hq50 hP hD hS => ?_)
                obtain ⟨T1_50, S1_50, C1_50, L1_50, B1_50, D1_50, Z1_50, F1_50, U1_50, X1_50, tx1_50, P1_50, pn1_50, hg1_50, kk1_50, K1_50, tl1_50, I1_50, lf1_50⟩ := u_
                have hP : va_P (dC, dI) vwCl (wMo dA mo 0 lf1_50 hg1_50 kk1_50 tx1_50 pn1_50 tk1_43 fm1_43 tO1_43 tl1_50 I1_50 T1_50 S1_50 C1_50 L1_50 B1_50 F1_50 U1_50 X1_50 P1_50 K1_50 D1_50 Z1_50 []) H := hP
                have hD : va_D A (wMo dA mo 0 lf1_50 hg1_50 kk1_50 tx1_50 pn1_50 tk1_43 fm1_43 tO1_43 tl1_50 I1_50 T1_50 S1_50 C1_50 L1_50 B1_50 F1_50 U1_50 X1_50 P1_50 K1_50 D1_50 Z1_50 []) := hD
                have hq50 : r50 = (stpA s9).1 ∧ MA T1_50 S1_50 C1_50 L1_50 B1_50 hg1_50 kk1_50 F1_50 U1_50 X1_50 tx1_50 P1_50 pn1_50 (stpA s9).2 ∧ MI I1_50 lf1_50 (stpA s9).2 := hq50
                refine lv_istore_n (lv' := [(2, .int (iI r50)), (3, .int (iI j)), (0, .ref mo), (1, .int (iI n0))]) hx hb dMo_run_53 rfl hl (by decide) rfl (fun ls hl => ?_)
                refine lv_iinc (k := 1) (lv' := [(3, .int (iI (j + 1))), (2, .int (iI r50)), (0, .ref mo), (1, .int (iI n0))]) (v := iI (j + 1)) hx hb dMo_run_54 hl rfl (iI_add _ _).symm (by decide) rfl (fun ls hl => ?_)
                refine lv_goto (tgt := 33) hx hb dMo_run_57 (by decide) ?_
                exact ih33 T1_50 S1_50 C1_50 L1_50 B1_50 D1_50 Z1_50 F1_50 U1_50 X1_50 tx1_50 P1_50 pn1_50 hg1_50 kk1_50 K1_50 tl1_50 I1_50 lf1_50 tk1_43 fm1_43 tO1_43 r50 (j + 1) ((stpA s9).2) H locs ls (by omega) (by have h := stp_b (st := s9); rw [← hq50.1] at h; exact h) (by exact hq50.2.1) (by exact hq50.2.2) (by have hl := (hL.resolve_right (fun z => by omega)).2; have hlc := lop_c (st := s9) (n := n0 - j) (by omega) hisc; by_cases hz : r50 = 0; (exact Or.inl ⟨hz, by rw [hl, hlc.1 (by rw [← hq50.1]; exact hz), show n0 - j - 1 = n0 - (j + 1) by omega]⟩); (exact Or.inr ⟨by have h := stp_b (st := s9); rw [← hq50.1] at h; omega, by rw [hl, hlc.2 (by rw [← hq50.1]; exact hz), hq50.1]⟩)) (by omega) hP hD hS (lv_sub hl [0, 1, 2, 3] rfl)
      exact L33 _ mT mS mC mL mB mD mZ mF mU mX tx mP pn hg kk mK tl mI lf tk fm tO 0 0 (strA st) H locs ls (by omega) (by omega) (by exact MA_c hMA rfl rfl rfl rfl rfl rfl rfl rfl rfl) (by exact MI_st hMI) (by exact Or.inl ⟨rfl, by rw [show n0 - 0 = n0 by omega]⟩) (Nat.lt_succ_self _) hP hD hS (lv_sub hl [0, 1, 2, 3] rfl)
    · refine lv_iconst (v := iI 1) hx hb dMo_run_12 rfl ?_
      refine lv_goto (tgt := 17) hx hb dMo_run_13 (by decide) ?_
      refine va_put (D := (dC, dI)) (ci := 7) (v := .int (iI 1)) (ty := .int) (C := "MacroReckonerModel") (T := TMo) (N := 23) hx hb hts inMo tyMo tyMo_ok nmMo hown hK hP hD hS 0 rfl rfl 0 (by decide) (hts _ wt4_58) (fun _ h9 => h9) rfl (by decide +kernel) rfl rfl (Nat.le_of_ble_eq_true rfl) dMo_run_17 (fun H locs hP hD hS => ?_)
      have hP : va_P (dC, dI) vwCl (wMo dA mo 1 lf hg kk tx pn tk fm tO tl mI mT mS mC mL mB mF mU mX mP mK mD mZ []) H := hP
      have hD : va_D A (wMo dA mo 1 lf hg kk tx pn tk fm tO tl mI mT mS mC mL mB mF mU mX mP mK mD mZ []) := hD
      refine lv_aload_n hx hb dMo_run_20 rfl (lv_at hl 0 rfl) ?_
      refine va_get (D := (dC, dI)) (ci := 7) (v := .int (iI 1)) (C := "MacroReckonerModel") (T := TMo) (N := 23) hx hb hts inMo hown hK hP 0 rfl rfl 0 (by decide) (hts _ wt4_58) (fun _ h9 => h9) rfl dMo_run_21 ?_
      refine iv_if_le (tgt := 29) hx hb dMo_run_24 (by decide) ⟨by decide, by decide⟩ (fun hc24 => absurd hc24 (by omega)) (fun hc24 => ?_)
      refine lv_iconst (v := iI 0) hx hb dMo_run_27 rfl ?_
      exact rt_i hx hb hr hlocks hK hS dMo_run_28 (mT, mS, mC, mL, mB, mD, mZ, mF, mU, mX, tx, mP, pn, hg, kk, mK, tl, mI, lf, tk, fm, tO, 1) hP hD (show ((n0 < 1 ∨ 100 < n0) ∧ 1 = 1 ∧ 0 = 0 ∧ MA mT mS mC mL mB hg kk mF mU mX tx mP pn st ∧ MIx mI lf st) ∨ (1 ≤ n0 ∧ n0 ≤ 100 ∧ 1 = 0 ∧ 0 = ansA (lopA (strA st) n0.toNat) ∧ MA mT mS mC mL mB hg kk mF mU mX tx mP pn (lopA (strA st) n0.toNat).2 ∧ MIx mI lf (lopA (strA st) n0.toNat).2) from by exact Or.inl ⟨by omega, rfl, rfl, hMA, hMI⟩)
