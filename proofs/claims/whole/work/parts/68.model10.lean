theorem dMo_plus_0 : decode prog_9_method_20_code 0 = .ok (.aload_n 0, 1) := by decide +kernel
theorem dMo_plus_1 : decode prog_9_method_20_code 1 = .ok (.getfield 20, 3) := by decide +kernel
theorem dMo_plus_4 : decode prog_9_method_20_code 4 = .ok (.iload_n 1, 1) := by decide +kernel
theorem dMo_plus_5 : decode prog_9_method_20_code 5 = .ok (.iaload, 1) := by decide +kernel
theorem dMo_plus_6 : decode prog_9_method_20_code 6 = .ok (.aload_n 0, 1) := by decide +kernel
theorem dMo_plus_7 : decode prog_9_method_20_code 7 = .ok (.getfield 20, 3) := by decide +kernel
theorem dMo_plus_10 : decode prog_9_method_20_code 10 = .ok (.iload_n 2, 1) := by decide +kernel
theorem dMo_plus_11 : decode prog_9_method_20_code 11 = .ok (.iaload, 1) := by decide +kernel
theorem dMo_plus_12 : decode prog_9_method_20_code 12 = .ok (.invokestatic 89, 3) := by decide +kernel
theorem dMo_plus_15 : decode prog_9_method_20_code 15 = .ok (.istore 4, 2) := by decide +kernel
theorem dMo_plus_17 : decode prog_9_method_20_code 17 = .ok (.aload_n 0, 1) := by decide +kernel
theorem dMo_plus_18 : decode prog_9_method_20_code 18 = .ok (.iconst 0, 1) := by decide +kernel
theorem dMo_plus_19 : decode prog_9_method_20_code 19 = .ok (.iload_n 1, 1) := by decide +kernel
theorem dMo_plus_20 : decode prog_9_method_20_code 20 = .ok (.iload 4, 2) := by decide +kernel
theorem dMo_plus_22 : decode prog_9_method_20_code 22 = .ok (.aload_n 0, 1) := by decide +kernel
theorem dMo_plus_23 : decode prog_9_method_20_code 23 = .ok (.getfield 20, 3) := by decide +kernel
theorem dMo_plus_26 : decode prog_9_method_20_code 26 = .ok (.iload_n 1, 1) := by decide +kernel
theorem dMo_plus_27 : decode prog_9_method_20_code 27 = .ok (.iaload, 1) := by decide +kernel
theorem dMo_plus_28 : decode prog_9_method_20_code 28 = .ok (.isub, 1) := by decide +kernel
theorem dMo_plus_29 : decode prog_9_method_20_code 29 = .ok (.invokevirtual 92, 3) := by decide +kernel
theorem dMo_plus_32 : decode prog_9_method_20_code 32 = .ok (.aload_n 0, 1) := by decide +kernel
theorem dMo_plus_33 : decode prog_9_method_20_code 33 = .ok (.iconst 1, 1) := by decide +kernel
theorem dMo_plus_34 : decode prog_9_method_20_code 34 = .ok (.iload_n 2, 1) := by decide +kernel
theorem dMo_plus_35 : decode prog_9_method_20_code 35 = .ok (.iload 4, 2) := by decide +kernel
theorem dMo_plus_37 : decode prog_9_method_20_code 37 = .ok (.aload_n 0, 1) := by decide +kernel
theorem dMo_plus_38 : decode prog_9_method_20_code 38 = .ok (.getfield 20, 3) := by decide +kernel
theorem dMo_plus_41 : decode prog_9_method_20_code 41 = .ok (.iload_n 2, 1) := by decide +kernel
theorem dMo_plus_42 : decode prog_9_method_20_code 42 = .ok (.iaload, 1) := by decide +kernel
theorem dMo_plus_43 : decode prog_9_method_20_code 43 = .ok (.isub, 1) := by decide +kernel
theorem dMo_plus_44 : decode prog_9_method_20_code 44 = .ok (.invokevirtual 92, 3) := by decide +kernel
theorem dMo_plus_47 : decode prog_9_method_20_code 47 = .ok (.aload_n 0, 1) := by decide +kernel
theorem dMo_plus_48 : decode prog_9_method_20_code 48 = .ok (.getfield 17, 3) := by decide +kernel
theorem dMo_plus_51 : decode prog_9_method_20_code 51 = .ok (.iload_n 1, 1) := by decide +kernel
theorem dMo_plus_52 : decode prog_9_method_20_code 52 = .ok (.iaload, 1) := by decide +kernel
theorem dMo_plus_53 : decode prog_9_method_20_code 53 = .ok (.iload_n 3, 1) := by decide +kernel
theorem dMo_plus_54 : decode prog_9_method_20_code 54 = .ok (.imul, 1) := by decide +kernel
theorem dMo_plus_55 : decode prog_9_method_20_code 55 = .ok (.ifCond .lt 36, 3) := by decide +kernel
theorem dMo_plus_58 : decode prog_9_method_20_code 58 = .ok (.aload_n 0, 1) := by decide +kernel
theorem dMo_plus_59 : decode prog_9_method_20_code 59 = .ok (.iconst 0, 1) := by decide +kernel
theorem dMo_plus_60 : decode prog_9_method_20_code 60 = .ok (.iconst 1, 1) := by decide +kernel
theorem dMo_plus_61 : decode prog_9_method_20_code 61 = .ok (.invokevirtual 73, 3) := by decide +kernel
theorem dMo_plus_64 : decode prog_9_method_20_code 64 = .ok (.aload_n 0, 1) := by decide +kernel
theorem dMo_plus_65 : decode prog_9_method_20_code 65 = .ok (.iconst 0, 1) := by decide +kernel
theorem dMo_plus_66 : decode prog_9_method_20_code 66 = .ok (.aload_n 0, 1) := by decide +kernel
theorem dMo_plus_67 : decode prog_9_method_20_code 67 = .ok (.getfield 17, 3) := by decide +kernel
theorem dMo_plus_70 : decode prog_9_method_20_code 70 = .ok (.iload_n 1, 1) := by decide +kernel
theorem dMo_plus_71 : decode prog_9_method_20_code 71 = .ok (.iaload, 1) := by decide +kernel
theorem dMo_plus_72 : decode prog_9_method_20_code 72 = .ok (.ifCond .eq 12, 3) := by decide +kernel
theorem dMo_plus_75 : decode prog_9_method_20_code 75 = .ok (.aload_n 0, 1) := by decide +kernel
theorem dMo_plus_76 : decode prog_9_method_20_code 76 = .ok (.getfield 17, 3) := by decide +kernel
theorem dMo_plus_79 : decode prog_9_method_20_code 79 = .ok (.iload_n 1, 1) := by decide +kernel
theorem dMo_plus_80 : decode prog_9_method_20_code 80 = .ok (.iaload, 1) := by decide +kernel
theorem dMo_plus_81 : decode prog_9_method_20_code 81 = .ok (.goto 4, 3) := by decide +kernel
theorem dMo_plus_84 : decode prog_9_method_20_code 84 = .ok (.iload_n 3, 1) := by decide +kernel
theorem dMo_plus_85 : decode prog_9_method_20_code 85 = .ok (.iload 4, 2) := by decide +kernel
theorem dMo_plus_87 : decode prog_9_method_20_code 87 = .ok (.invokevirtual 79, 3) := by decide +kernel
theorem dMo_plus_90 : decode prog_9_method_20_code 90 = .ok (.ireturn, 1) := by decide +kernel
theorem dMo_plus_91 : decode prog_9_method_20_code 91 = .ok (.aload_n 0, 1) := by decide +kernel
theorem dMo_plus_92 : decode prog_9_method_20_code 92 = .ok (.iconst 0, 1) := by decide +kernel
theorem dMo_plus_93 : decode prog_9_method_20_code 93 = .ok (.iconst 1, 1) := by decide +kernel
theorem dMo_plus_94 : decode prog_9_method_20_code 94 = .ok (.invokevirtual 62, 3) := by decide +kernel
theorem dMo_plus_97 : decode prog_9_method_20_code 97 = .ok (.ifCond .lt 23, 3) := by decide +kernel
theorem dMo_plus_100 : decode prog_9_method_20_code 100 = .ok (.aload_n 0, 1) := by decide +kernel
theorem dMo_plus_101 : decode prog_9_method_20_code 101 = .ok (.iconst 0, 1) := by decide +kernel
theorem dMo_plus_102 : decode prog_9_method_20_code 102 = .ok (.iconst 1, 1) := by decide +kernel
theorem dMo_plus_103 : decode prog_9_method_20_code 103 = .ok (.invokevirtual 66, 3) := by decide +kernel
theorem dMo_plus_106 : decode prog_9_method_20_code 106 = .ok (.aload_n 0, 1) := by decide +kernel
theorem dMo_plus_107 : decode prog_9_method_20_code 107 = .ok (.iconst 0, 1) := by decide +kernel
theorem dMo_plus_108 : decode prog_9_method_20_code 108 = .ok (.aload_n 0, 1) := by decide +kernel
theorem dMo_plus_109 : decode prog_9_method_20_code 109 = .ok (.getfield 17, 3) := by decide +kernel
theorem dMo_plus_112 : decode prog_9_method_20_code 112 = .ok (.iload_n 1, 1) := by decide +kernel
theorem dMo_plus_113 : decode prog_9_method_20_code 113 = .ok (.iaload, 1) := by decide +kernel
theorem dMo_plus_114 : decode prog_9_method_20_code 114 = .ok (.iload 4, 2) := by decide +kernel
theorem dMo_plus_116 : decode prog_9_method_20_code 116 = .ok (.invokevirtual 79, 3) := by decide +kernel
theorem dMo_plus_119 : decode prog_9_method_20_code 119 = .ok (.ireturn, 1) := by decide +kernel
theorem dMo_plus_120 : decode prog_9_method_20_code 120 = .ok (.aload_n 0, 1) := by decide +kernel
theorem dMo_plus_121 : decode prog_9_method_20_code 121 = .ok (.iconst 1, 1) := by decide +kernel
theorem dMo_plus_122 : decode prog_9_method_20_code 122 = .ok (.iconst 0, 1) := by decide +kernel
theorem dMo_plus_123 : decode prog_9_method_20_code 123 = .ok (.invokevirtual 66, 3) := by decide +kernel
theorem dMo_plus_126 : decode prog_9_method_20_code 126 = .ok (.aload_n 0, 1) := by decide +kernel
theorem dMo_plus_127 : decode prog_9_method_20_code 127 = .ok (.iconst 1, 1) := by decide +kernel
theorem dMo_plus_128 : decode prog_9_method_20_code 128 = .ok (.iload_n 3, 1) := by decide +kernel
theorem dMo_plus_129 : decode prog_9_method_20_code 129 = .ok (.iload 4, 2) := by decide +kernel
theorem dMo_plus_131 : decode prog_9_method_20_code 131 = .ok (.invokevirtual 79, 3) := by decide +kernel
theorem dMo_plus_134 : decode prog_9_method_20_code 134 = .ok (.ireturn, 1) := by decide +kernel
abbrev qMo_plus (dC : Nat → ClassId) (dI : Nat → Nat → Nat) (dA : Nat → ClassId) (mo : Nat) (ft : Int) (lf : Int) (hg : Int) (kk : Int) (tx : Int) (pn : Int) (tk : Int) (fm : Int) (tO : Int) (tl : Int) (mI : Int → Int) (mT : Int → Int) (mS : Int → Int) (mC : Int → Int) (mL : Int → Int) (mB : Int → Int) (mF : Int → Int) (mU : Int → Int) (mX : Int → Int) (mP : Int → Int) (mK : Int → Int) (mD : Int → Int) (mZ : Int → Int) (x : Int) (y : Int) (xa : Th) (yb : Th) (ys : Int) (w : Int) (A : Nat → Prop) : Array Value → State → Outcome → State → Prop := QI (dC, dI) vwCl (tyA dA) (fun (r : Int) (v_ : (Int → Int) × (Int → Int) × (Int → Int) × (Int → Int) × (Int → Int) × (Int → Int) × (Int → Int)) => mres r (xa.v * PW 10 (max xa.sc yb.sc - xa.sc) + w * PW 10 (max xa.sc yb.sc - yb.sc)) (max xa.sc yb.sc) v_.1 v_.2.1 v_.2.2.1 v_.2.2.2.1 v_.2.2.2.2.1 ∧ thO mT mS mC mL mB v_.1 v_.2.1 v_.2.2.1 v_.2.2.2.1 v_.2.2.2.2.1 46) (fun (v_ : (Int → Int) × (Int → Int) × (Int → Int) × (Int → Int) × (Int → Int) × (Int → Int) × (Int → Int)) => wMo dA mo ft lf hg kk tx pn tk fm tO tl mI v_.1 v_.2.1 v_.2.2.1 v_.2.2.2.1 v_.2.2.2.2.1 mF mU mX mP mK v_.2.2.2.2.2.1 v_.2.2.2.2.2.2 []) A
abbrev rmMo_plus : Room := { frames := 2, cells := 0, slots := 0, locals := 47 }
set_option maxRecDepth 100000 in
set_option maxHeartbeats 1000000 in
theorem cMo_plus (l : Launch) (dC : Nat → ClassId) (dI : Nat → Nat → Nat) (dA : Nat → ClassId) (mo : Nat) (ft : Int) (lf : Int) (hg : Int) (kk : Int) (tx : Int) (pn : Int) (tk : Int) (fm : Int) (tO : Int) (tl : Int) (mI : Int → Int) (mT : Int → Int) (mS : Int → Int) (mC : Int → Int) (mL : Int → Int) (mB : Int → Int) (mF : Int → Int) (mU : Int → Int) (mX : Int → Int) (mP : Int → Int) (mK : Int → Int) (mD : Int → Int) (mZ : Int → Int) (x : Int) (y : Int) (xa : Th) (yb : Th) (ys : Int) (w : Int) (hxy : 0 ≤ x ∧ x ≤ 46 ∧ 0 ≤ y ∧ y ≤ 46) (hTa : MT mT mS mC mL mB x xa) (hta : xa.t = 0) (hTb : MT mT mS mC mL mB y yb) (htb : yb.t = 0) (hw : sgs ys w) (hw2 : ab w = ab yb.v) (sz : Nat) : Met l yMo_plus wsMo_plus rmMo_plus (PC (dC, dI) vwCl (tyA dA) XN [.ref mo, .int (iI x), .int (iI y), .int (iI ys)] (wMo dA mo ft lf hg kk tx pn tk fm tO tl mI mT mS mC mL mB mF mU mX mP mK mD mZ []) sz) (qMo_plus dC dI dA mo ft lf hg kk tx pn tk fm tO tl mI mT mS mC mL mB mF mU mX mP mK mD mZ x y xa yb ys w (va_A (wMo dA mo ft lf hg kk tx pn tk fm tO tl mI mT mS mC mL mB mF mU mX mP mK mD mZ []) sz)) 0 0 (va_A (wMo dA mo ft lf hg kk tx pn tk fm tO tl mI mT mS mC mL mB mF mU mX mP mK mD mZ []) sz) := by
  refine met_of (cc := prog_9_method_20_code) (maxL := 5) (ret := (some .int)) (Qc := qMo_plus dC dI dA mo ft lf hg kk tx pn tk fm tO tl mI mT mS mC mL mB mF mU mX mP mK mD mZ x y xa yb ys w) XN_ok (by decide) rfl (Nat.le_of_ble_eq_true rfl) ?_
  intro p e s m below meth c ls A hx hb hr hml hown hts hlocks hnm hK hP hD hA hX hS hl
  have hl : lv_has ls 5 [(0, .ref mo), (1, .int (iI x)), (2, .int (iI y)), (3, .int (iI ys))] := hl
  have hown : s.vm.findClass "MacroReckonerModel" = some m.cls := hown
  obtain ⟨H, hH⟩ : ∃ H : Heap, H = s.heap := ⟨_, rfl⟩
  obtain ⟨locs, hlo⟩ : ∃ L : List Loc, L = [] := ⟨_, rfl⟩
  have hP : va_P (dC, dI) vwCl (wMo dA mo ft lf hg kk tx pn tk fm tO tl mI mT mS mC mL mB mF mU mX mP mK mD mZ []) H := hH ▸ hP
  have hS : va_S A s.heap H locs := by rw [hH, hlo]; exact hS
  suffices hgo : W p l e rmMo_plus s m [.ref mo, .int (iI x), .int (iI y), .int (iI ys)].toArray below meth c H locs 0 0 (MQ below (qMo_plus dC dI dA mo ft lf hg kk tx pn tk fm tO tl mI mT mS mC mL mB mF mU mX mP mK mD mZ x y xa yb ys w A) [.ref mo, .int (iI x), .int (iI y), .int (iI ys)].toArray s 0 0 A) (F0 m 0 ls []) by rw [hH, hlo] at hgo; exact hgo
  clear hH hlo
  obtain ⟨hCx, hscx, hTx, hSx⟩ := MT_n hTa hta
  have hbx := TD_bd hTx
  have hlx := (MT_b hTa).2.2.2.2
  obtain ⟨hCy, hscy, hTy, hSy⟩ := MT_n hTb htb
  have hby := TD_bd hTy
  have hly := (MT_b hTb).2.2.2.2
  have hPp := PW_pos (b := 10) (by decide) (max xa.sc yb.sc - xa.sc)
  have hQp := PW_pos (b := 10) (by decide) (max xa.sc yb.sc - yb.sc)
  refine lv_aload_n hx hb dMo_plus_0 rfl (lv_at hl 0 rfl) ?_
  refine va_get (D := (dC, dI)) (ci := 7) (v := .ref (mo + 4)) (C := "MacroReckonerModel") (T := TMo) (N := 23) hx hb hts inMo hown hK hP 0 rfl rfl 5 (by decide) (hts _ wt4_63) (fun _ h9 => h9) rfl dMo_plus_1 ?_
  refine lv_iload_n hx hb dMo_plus_4 rfl (lv_at hl 1 rfl) ?_
  refine iv_iald hx hb hK hP 4 0 rfl rfl (by decide) dMo_plus_5 (by omega) (by omega) ?_
  refine lv_aload_n hx hb dMo_plus_6 rfl (lv_at hl 0 rfl) ?_
  refine va_get (D := (dC, dI)) (ci := 7) (v := .ref (mo + 4)) (C := "MacroReckonerModel") (T := TMo) (N := 23) hx hb hts inMo hown hK hP 0 rfl rfl 5 (by decide) (hts _ wt4_63) (fun _ h9 => h9) rfl dMo_plus_7 ?_
  refine lv_iload_n hx hb dMo_plus_10 rfl (lv_at hl 2 rfl) ?_
  refine iv_iald hx hb hK hP 4 0 rfl rfl (by decide) dMo_plus_11 (by omega) (by omega) ?_
  refine cv_i (va_runS (As := [.int (iI (mC x)), .int (iI (mC y))]) (rest := []) ⟨hx, hb, hml, hown, hts⟩ (cMo_greater l dC dI dA (mC x) (mC y) (by omega) H.size) (cwS 2 hts (gdS wt4_223 wt4_224 wt1_8 wt4_225) rfl rfl rfl ⟨rfl, by decide, by decide, by decide +kernel⟩ ⟨by decide, by decide⟩) (preS hK hP hD hS hA XN_ok trivial [] rfl rfl) rfl rfl hl.1 rfl (lv_room (Nat.le_of_ble_eq_true rfl)) dMo_plus_12 ⟨Nat.zero_le _, Nat.zero_le _⟩) hP hD hS hA [] [0, 1, 2, 3, 4, 5, 6, 7, 8, 9, 10, 11, 12, 13] rfl (fun v_ => wMo dA mo ft lf hg kk tx pn tk fm tO tl mI mT mS mC mL mB mF mU mX mP mK mD mZ []) (fun _ => rfl) (wMo dA mo ft lf hg kk tx pn tk fm tO tl mI mT mS mC mL mB mF mU mX mP mK mD mZ []) rfl (fun _ => rfl) [mo, mo + 1, mo + 2, mo + 3, mo + 4, mo + 5, mo + 6, mo + 7, mo + 8, mo + 9, mo + 10, mo + 11, mo + 12, mo + 13] rfl (fun _ => rfl) (fun _ => rfl) (fun t9 u_ H locs hq12 hP hD hS => ?_)
  have hP : va_P (dC, dI) vwCl (wMo dA mo ft lf hg kk tx pn tk fm tO tl mI mT mS mC mL mB mF mU mX mP mK mD mZ []) H := hP
  have hD : va_D A (wMo dA mo ft lf hg kk tx pn tk fm tO tl mI mT mS mC mL mB mF mU mX mP mK mD mZ []) := hD
  have hq12 : t9 = max (mC x) (mC y) := hq12
  rw [hCx, hCy] at hq12
  refine lv_istore (lv' := [(4, .int (iI t9)), (0, .ref mo), (1, .int (iI x)), (2, .int (iI y)), (3, .int (iI ys))]) hx hb dMo_plus_15 hl (by decide) rfl (fun ls hl => ?_)
  refine lv_aload_n hx hb dMo_plus_17 rfl (lv_at hl 1 rfl) ?_
  refine lv_iconst (v := iI 0) hx hb dMo_plus_18 rfl ?_
  refine lv_iload_n hx hb dMo_plus_19 rfl (lv_at hl 2 rfl) ?_
  refine lv_iload hx hb dMo_plus_20 (lv_at hl 0 rfl) ?_
  refine lv_aload_n hx hb dMo_plus_22 rfl (lv_at hl 1 rfl) ?_
  refine va_get (D := (dC, dI)) (ci := 7) (v := .ref (mo + 4)) (C := "MacroReckonerModel") (T := TMo) (N := 23) hx hb hts inMo hown hK hP 0 rfl rfl 5 (by decide) (hts _ wt4_63) (fun _ h9 => h9) rfl dMo_plus_23 ?_
  refine lv_iload_n hx hb dMo_plus_26 rfl (lv_at hl 2 rfl) ?_
  refine iv_iald hx hb hK hP 4 0 rfl rfl (by decide) dMo_plus_27 (by omega) (by omega) ?_
  refine iv_isub hx hb dMo_plus_28 ?_
  refine cv_v (va_runV (C := "MacroReckonerModel") (As := [.int (iI 0), .int (iI x), .int (iI (t9 - (mC x)))]) (rest := []) ⟨hx, hb, hml, hown, hts⟩ (cMo_load l dC dI dA mo ft lf hg kk tx pn tk fm tO tl mI mT mS mC mL mB mF mU mX mP mK mD mZ 0 x (t9 - (mC x)) (ab xa.v) (by omega) (by omega) (by exact hTx) H.size) (cwV 3 hts (gdV wt4_226 wt4_228 ws4_10 wt1_8 wt4_229) rfl rfl rfl ⟨rfl, by decide, by decide, by decide +kernel⟩ ⟨by decide, by decide⟩) (preV (q := ("MacroReckonerModel", TMo, 23)) hK hP hD hS hA XN_ok trivial [0, 1, 2, 3, 4, 5, 6, 7, 8, 9, 10, 11, 12, 13] rfl rfl 0 rfl rfl) rfl rfl hl.1 rfl (lv_room (Nat.le_of_ble_eq_true rfl)) dMo_plus_29 ⟨Nat.zero_le _, Nat.zero_le _⟩) hP hD hS hA [0, 1, 2, 3, 4, 5, 6, 7, 8, 9, 10, 11, 12, 13] [] rfl (fun v_ => wMo dA mo ft lf hg kk tx pn tk fm tO tl mI mT mS mC mL mB mF mU mX mP mK v_.1 v_.2 []) (fun _ => rfl) ([] : va_W) rfl (fun _ => rfl) [mo, mo + 1, mo + 2, mo + 3, mo + 4, mo + 5, mo + 6, mo + 7, mo + 8, mo + 9, mo + 10, mo + 11, mo + 12, mo + 13] rfl (fun _ => rfl) (fun _ => rfl) (fun u_ H locs hq29 hP hD hS => ?_)
  obtain ⟨D1_29, Z1_29⟩ := u_
  have hP : va_P (dC, dI) vwCl (wMo dA mo ft lf hg kk tx pn tk fm tO tl mI mT mS mC mL mB mF mU mX mP mK D1_29 Z1_29 []) H := hP
  have hD : va_D A (wMo dA mo ft lf hg kk tx pn tk fm tO tl mI mT mS mC mL mB mF mU mX mP mK D1_29 Z1_29 []) := hD
  have hq29 : MR D1_29 Z1_29 0 ((ab xa.v) * PW 10 (t9 - (mC x))) ∧ others mD mZ D1_29 Z1_29 0 := hq29
  rw [hCx, hq12] at hq29
  refine lv_aload_n hx hb dMo_plus_32 rfl (lv_at hl 1 rfl) ?_
  refine lv_iconst (v := iI 1) hx hb dMo_plus_33 rfl ?_
  refine lv_iload_n hx hb dMo_plus_34 rfl (lv_at hl 3 rfl) ?_
  refine lv_iload hx hb dMo_plus_35 (lv_at hl 0 rfl) ?_
  refine lv_aload_n hx hb dMo_plus_37 rfl (lv_at hl 1 rfl) ?_
  refine va_get (D := (dC, dI)) (ci := 7) (v := .ref (mo + 4)) (C := "MacroReckonerModel") (T := TMo) (N := 23) hx hb hts inMo hown hK hP 0 rfl rfl 5 (by decide) (hts _ wt4_63) (fun _ h9 => h9) rfl dMo_plus_38 ?_
  refine lv_iload_n hx hb dMo_plus_41 rfl (lv_at hl 3 rfl) ?_
  refine iv_iald hx hb hK hP 4 0 rfl rfl (by decide) dMo_plus_42 (by omega) (by omega) ?_
  refine iv_isub hx hb dMo_plus_43 ?_
  refine cv_v (va_runV (C := "MacroReckonerModel") (As := [.int (iI 1), .int (iI y), .int (iI (t9 - (mC y)))]) (rest := []) ⟨hx, hb, hml, hown, hts⟩ (cMo_load l dC dI dA mo ft lf hg kk tx pn tk fm tO tl mI mT mS mC mL mB mF mU mX mP mK D1_29 Z1_29 1 y (t9 - (mC y)) (ab yb.v) (by omega) (by omega) (by exact hTy) H.size) (cwV 3 hts (gdV wt4_226 wt4_228 ws4_10 wt1_8 wt4_229) rfl rfl rfl ⟨rfl, by decide, by decide, by decide +kernel⟩ ⟨by decide, by decide⟩) (preV (q := ("MacroReckonerModel", TMo, 23)) hK hP hD hS hA XN_ok trivial [0, 1, 2, 3, 4, 5, 6, 7, 8, 9, 10, 11, 12, 13] rfl rfl 0 rfl rfl) rfl rfl hl.1 rfl (lv_room (Nat.le_of_ble_eq_true rfl)) dMo_plus_44 ⟨Nat.zero_le _, Nat.zero_le _⟩) hP hD hS hA [0, 1, 2, 3, 4, 5, 6, 7, 8, 9, 10, 11, 12, 13] [] rfl (fun v_ => wMo dA mo ft lf hg kk tx pn tk fm tO tl mI mT mS mC mL mB mF mU mX mP mK v_.1 v_.2 []) (fun _ => rfl) ([] : va_W) rfl (fun _ => rfl) [mo, mo + 1, mo + 2, mo + 3, mo + 4, mo + 5, mo + 6, mo + 7, mo + 8, mo + 9, mo + 10, mo + 11, mo + 12, mo + 13] rfl (fun _ => rfl) (fun _ => rfl) (fun u_ H locs hq44 hP hD hS => ?_)
  obtain ⟨D1_44, Z1_44⟩ := u_
  have hP : va_P (dC, dI) vwCl (wMo dA mo ft lf hg kk tx pn tk fm tO tl mI mT mS mC mL mB mF mU mX mP mK D1_44 Z1_44 []) H := hP
  have hD : va_D A (wMo dA mo ft lf hg kk tx pn tk fm tO tl mI mT mS mC mL mB mF mU mX mP mK D1_44 Z1_44 []) := hD
  have hq44 : MR D1_44 Z1_44 1 ((ab yb.v) * PW 10 (t9 - (mC y))) ∧ others D1_29 Z1_29 D1_44 Z1_44 1 := hq44
  rw [hCy, hq12] at hq44
  have h0 := MR_o hq44.2 (by decide) hq29.1
  have hz0 := M_sz h0 (w60 hbx.1 hbx.2 (show 0 ≤ max xa.sc yb.sc - xa.sc by omega) (by omega)).1 (by omega)
  have hz1 := M_sz hq44.1 (w60 hby.1 hby.2 (show 0 ≤ max xa.sc yb.sc - yb.sc by omega) (by omega)).1 (by omega)
  obtain ⟨-, hsm2, -⟩ := sgs_mul hSx hw
  refine lv_aload_n hx hb dMo_plus_47 rfl (lv_at hl 1 rfl) ?_
  refine va_get (D := (dC, dI)) (ci := 7) (v := .ref (mo + 3)) (C := "MacroReckonerModel") (T := TMo) (N := 23) hx hb hts inMo hown hK hP 0 rfl rfl 4 (by decide) (hts _ wt4_62) (fun _ h9 => h9) rfl dMo_plus_48 ?_
  refine lv_iload_n hx hb dMo_plus_51 rfl (lv_at hl 2 rfl) ?_
  refine iv_iald hx hb hK hP 3 0 rfl rfl (by decide) dMo_plus_52 (by omega) (by omega) ?_
  refine lv_iload_n hx hb dMo_plus_53 rfl (lv_at hl 4 rfl) ?_
  refine iv_imul hx hb dMo_plus_54 ?_
  refine iv_if_lt (tgt := 91) hx hb dMo_plus_55 (by decide) ⟨by omega, by omega⟩ (fun hc55 => ?_) (fun hc55 => ?_)
  · refine lv_aload_n hx hb dMo_plus_91 rfl (lv_at hl 1 rfl) ?_
    refine lv_iconst (v := iI 0) hx hb dMo_plus_92 rfl ?_
    refine lv_iconst (v := iI 1) hx hb dMo_plus_93 rfl ?_
    refine cv_i (va_runV (C := "MacroReckonerModel") (As := [.int (iI 0), .int (iI 1)]) (rest := []) ⟨hx, hb, hml, hown, hts⟩ (cMo_compare l dC dI dA mo ft lf hg kk tx pn tk fm tO tl mI mT mS mC mL mB mF mU mX mP mK D1_44 Z1_44 0 1 (ab xa.v * PW 10 (max xa.sc yb.sc - xa.sc)) (ab yb.v * PW 10 (max xa.sc yb.sc - yb.sc)) (by omega) (by exact h0) (by exact hq44.1) H.size) (cwV 2 hts (gdV wt4_230 wt4_232 ws4_11 wt1_8 wt4_233) rfl rfl rfl ⟨rfl, by decide, by decide, by decide +kernel⟩ ⟨by decide, by decide⟩) (preV (q := ("MacroReckonerModel", TMo, 23)) hK hP hD hS hA XN_ok trivial [0, 1, 2, 3, 4, 5, 6, 7, 8, 9, 10, 11, 12, 13] rfl rfl 0 rfl rfl) rfl rfl hl.1 rfl (lv_room (Nat.le_of_ble_eq_true rfl)) dMo_plus_94 ⟨Nat.zero_le _, Nat.zero_le _⟩) hP hD hS hA [0, 1, 2, 3, 4, 5, 6, 7, 8, 9, 10, 11, 12, 13] [] rfl (fun v_ => wMo dA mo ft lf hg kk tx pn tk fm tO tl mI mT mS mC mL mB mF mU mX mP mK D1_44 Z1_44 []) (fun _ => rfl) ([] : va_W) rfl (fun _ => rfl) [mo, mo + 1, mo + 2, mo + 3, mo + 4, mo + 5, mo + 6, mo + 7, mo + 8, mo + 9, mo + 10, mo + 11, mo + 12, mo + 13] rfl (fun _ => rfl) (fun _ => rfl) (fun r94 u_ H locs hq94 hP hD hS => ?_)
    have hP : va_P (dC, dI) vwCl (wMo dA mo ft lf hg kk tx pn tk fm tO tl mI mT mS mC mL mB mF mU mX mP mK D1_44 Z1_44 []) H := hP
    have hD : va_D A (wMo dA mo ft lf hg kk tx pn tk fm tO tl mI mT mS mC mL mB mF mU mX mP mK D1_44 Z1_44 []) := hD
    have hq94 : (((ab xa.v * PW 10 (max xa.sc yb.sc - xa.sc)) < (ab yb.v * PW 10 (max xa.sc yb.sc - yb.sc)) ∧ r94 < 0) ∨ ((ab xa.v * PW 10 (max xa.sc yb.sc - xa.sc)) = (ab yb.v * PW 10 (max xa.sc yb.sc - yb.sc)) ∧ r94 = 0) ∨ ((ab yb.v * PW 10 (max xa.sc yb.sc - yb.sc)) < (ab xa.v * PW 10 (max xa.sc yb.sc - xa.sc)) ∧ 0 < r94)) ∧ -400 ≤ r94 ∧ r94 ≤ 400 := hq94
    refine iv_if_lt (tgt := 120) hx hb dMo_plus_97 (by decide) ⟨by omega, by omega⟩ (fun hc97 => ?_) (fun hc97 => ?_)
    · refine lv_aload_n hx hb dMo_plus_120 rfl (lv_at hl 1 rfl) ?_
      refine lv_iconst (v := iI 1) hx hb dMo_plus_121 rfl ?_
      refine lv_iconst (v := iI 0) hx hb dMo_plus_122 rfl ?_
      refine cv_v (va_runV (C := "MacroReckonerModel") (As := [.int (iI 1), .int (iI 0)]) (rest := []) ⟨hx, hb, hml, hown, hts⟩ (cMo_decrease l dC dI dA mo ft lf hg kk tx pn tk fm tO tl mI mT mS mC mL mB mF mU mX mP mK D1_44 Z1_44 1 0 (ab yb.v * PW 10 (max xa.sc yb.sc - yb.sc)) (ab xa.v * PW 10 (max xa.sc yb.sc - xa.sc)) (by omega) (by exact hq44.1) (by exact h0) (by omega) H.size) (cwV 2 hts (gdV wt5_17 wt5_19 ws5_1 wt1_8 wt5_20) rfl rfl rfl ⟨rfl, by decide, by decide, by decide +kernel⟩ ⟨by decide, by decide⟩) (preV (q := ("MacroReckonerModel", TMo, 23)) hK hP hD hS hA XN_ok trivial [0, 1, 2, 3, 4, 5, 6, 7, 8, 9, 10, 11, 12, 13] rfl rfl 0 rfl rfl) rfl rfl hl.1 rfl (lv_room (Nat.le_of_ble_eq_true rfl)) dMo_plus_123 ⟨Nat.zero_le _, Nat.zero_le _⟩) hP hD hS hA [0, 1, 2, 3, 4, 5, 6, 7, 8, 9, 10, 11, 12, 13] [] rfl (fun v_ => wMo dA mo ft lf hg kk tx pn tk fm tO tl mI mT mS mC mL mB mF mU mX mP mK v_.1 v_.2 []) (fun _ => rfl) ([] : va_W) rfl (fun _ => rfl) [mo, mo + 1, mo + 2, mo + 3, mo + 4, mo + 5, mo + 6, mo + 7, mo + 8, mo + 9, mo + 10, mo + 11, mo + 12, mo + 13] rfl (fun _ => rfl) (fun _ => rfl) (fun u_ H locs hq123 hP hD hS => ?_)
      obtain ⟨D1_123, Z1_123⟩ := u_
      have hP : va_P (dC, dI) vwCl (wMo dA mo ft lf hg kk tx pn tk fm tO tl mI mT mS mC mL mB mF mU mX mP mK D1_123 Z1_123 []) H := hP
      have hD : va_D A (wMo dA mo ft lf hg kk tx pn tk fm tO tl mI mT mS mC mL mB mF mU mX mP mK D1_123 Z1_123 []) := hD
      have hq123 : MR D1_123 Z1_123 1 ((ab yb.v * PW 10 (max xa.sc yb.sc - yb.sc)) - (ab xa.v * PW 10 (max xa.sc yb.sc - xa.sc))) ∧ others D1_44 Z1_44 D1_123 Z1_123 1 := hq123
      refine lv_aload_n hx hb dMo_plus_126 rfl (lv_at hl 1 rfl) ?_
      refine lv_iconst (v := iI 1) hx hb dMo_plus_127 rfl ?_
      refine lv_iload_n hx hb dMo_plus_128 rfl (lv_at hl 4 rfl) ?_
      refine lv_iload hx hb dMo_plus_129 (lv_at hl 0 rfl) ?_
      refine cv_i (va_runV (C := "MacroReckonerModel") (As := [.int (iI 1), .int (iI ys), .int (iI t9)]) (rest := []) ⟨hx, hb, hml, hown, hts⟩ (cMo_make l dC dI dA mo ft lf hg kk tx pn tk fm tO tl mI mT mS mC mL mB mF mU mX mP mK D1_123 Z1_123 1 ys t9 (ab yb.v * PW 10 (max xa.sc yb.sc - yb.sc) - ab xa.v * PW 10 (max xa.sc yb.sc - xa.sc)) (xa.v * PW 10 (max xa.sc yb.sc - xa.sc) + w * PW 10 (max xa.sc yb.sc - yb.sc)) (by omega) (by exact hq123.1) (by have h := (pl_2 (P := 1) (Q := 1) hSx hw (by omega)).2.2.2; omega) (by omega) (by rw [← hw2]; exact (pl_2 hSx hw (by omega)).2.1) H.size) (cwV 3 hts (gdV wt4_195 wt4_197 ws4_3 wt1_8 wt4_198) rfl rfl rfl ⟨rfl, by decide, by decide, by decide +kernel⟩ ⟨by decide, by decide⟩) (preV (q := ("MacroReckonerModel", TMo, 23)) hK hP hD hS hA XN_ok trivial [0, 1, 2, 3, 4, 5, 6, 7, 8, 9, 10, 11, 12, 13] rfl rfl 0 rfl rfl) rfl rfl hl.1 rfl (lv_room (Nat.le_of_ble_eq_true rfl)) dMo_plus_131 ⟨Nat.zero_le _, Nat.zero_le _⟩) hP hD hS hA [0, 1, 2, 3, 4, 5, 6, 7, 8, 9, 10, 11, 12, 13] [] rfl (fun v_ => wMo dA mo ft lf hg kk tx pn tk fm tO tl mI v_.1 v_.2.1 v_.2.2.1 v_.2.2.2.1 v_.2.2.2.2 mF mU mX mP mK D1_123 Z1_123 []) (fun _ => rfl) ([] : va_W) rfl (fun _ => rfl) [mo, mo + 1, mo + 2, mo + 3, mo + 4, mo + 5, mo + 6, mo + 7, mo + 8, mo + 9, mo + 10, mo + 11, mo + 12, mo + 13] rfl (fun _ => rfl) (fun _ => rfl) (fun r131 u_ H locs hq131 hP hD hS => ?_)
      obtain ⟨T1_131, S1_131, C1_131, L1_131, B1_131⟩ := u_
      have hP : va_P (dC, dI) vwCl (wMo dA mo ft lf hg kk tx pn tk fm tO tl mI T1_131 S1_131 C1_131 L1_131 B1_131 mF mU mX mP mK D1_123 Z1_123 []) H := hP
      have hD : va_D A (wMo dA mo ft lf hg kk tx pn tk fm tO tl mI T1_131 S1_131 C1_131 L1_131 B1_131 mF mU mX mP mK D1_123 Z1_123 []) := hD
      have hq131 : mres r131 (xa.v * PW 10 (max xa.sc yb.sc - xa.sc) + w * PW 10 (max xa.sc yb.sc - yb.sc)) t9 T1_131 S1_131 C1_131 L1_131 B1_131 ∧ thO mT mS mC mL mB T1_131 S1_131 C1_131 L1_131 B1_131 46 := hq131
      exact rt_i hx hb hr hlocks hK hS dMo_plus_134 (T1_131, S1_131, C1_131, L1_131, B1_131, D1_123, Z1_123) hP hD (show mres r131 (xa.v * PW 10 (max xa.sc yb.sc - xa.sc) + w * PW 10 (max xa.sc yb.sc - yb.sc)) (max xa.sc yb.sc) T1_131 S1_131 C1_131 L1_131 B1_131 ∧ thO mT mS mC mL mB T1_131 S1_131 C1_131 L1_131 B1_131 46 from by rw [hq12] at hq131; exact hq131)
    · refine lv_aload_n hx hb dMo_plus_100 rfl (lv_at hl 1 rfl) ?_
      refine lv_iconst (v := iI 0) hx hb dMo_plus_101 rfl ?_
      refine lv_iconst (v := iI 1) hx hb dMo_plus_102 rfl ?_
      refine cv_v (va_runV (C := "MacroReckonerModel") (As := [.int (iI 0), .int (iI 1)]) (rest := []) ⟨hx, hb, hml, hown, hts⟩ (cMo_decrease l dC dI dA mo ft lf hg kk tx pn tk fm tO tl mI mT mS mC mL mB mF mU mX mP mK D1_44 Z1_44 0 1 (ab xa.v * PW 10 (max xa.sc yb.sc - xa.sc)) (ab yb.v * PW 10 (max xa.sc yb.sc - yb.sc)) (by omega) (by exact h0) (by exact hq44.1) (by omega) H.size) (cwV 2 hts (gdV wt5_17 wt5_19 ws5_1 wt1_8 wt5_20) rfl rfl rfl ⟨rfl, by decide, by decide, by decide +kernel⟩ ⟨by decide, by decide⟩) (preV (q := ("MacroReckonerModel", TMo, 23)) hK hP hD hS hA XN_ok trivial [0, 1, 2, 3, 4, 5, 6, 7, 8, 9, 10, 11, 12, 13] rfl rfl 0 rfl rfl) rfl rfl hl.1 rfl (lv_room (Nat.le_of_ble_eq_true rfl)) dMo_plus_103 ⟨Nat.zero_le _, Nat.zero_le _⟩) hP hD hS hA [0, 1, 2, 3, 4, 5, 6, 7, 8, 9, 10, 11, 12, 13] [] rfl (fun v_ => wMo dA mo ft lf hg kk tx pn tk fm tO tl mI mT mS mC mL mB mF mU mX mP mK v_.1 v_.2 []) (fun _ => rfl) ([] : va_W) rfl (fun _ => rfl) [mo, mo + 1, mo + 2, mo + 3, mo + 4, mo + 5, mo + 6, mo + 7, mo + 8, mo + 9, mo + 10, mo + 11, mo + 12, mo + 13] rfl (fun _ => rfl) (fun _ => rfl) (fun u_ H locs hq103 hP hD hS => ?_)
      obtain ⟨D1_103, Z1_103⟩ := u_
      have hP : va_P (dC, dI) vwCl (wMo dA mo ft lf hg kk tx pn tk fm tO tl mI mT mS mC mL mB mF mU mX mP mK D1_103 Z1_103 []) H := hP
      have hD : va_D A (wMo dA mo ft lf hg kk tx pn tk fm tO tl mI mT mS mC mL mB mF mU mX mP mK D1_103 Z1_103 []) := hD
      have hq103 : MR D1_103 Z1_103 0 ((ab xa.v * PW 10 (max xa.sc yb.sc - xa.sc)) - (ab yb.v * PW 10 (max xa.sc yb.sc - yb.sc))) ∧ others D1_44 Z1_44 D1_103 Z1_103 0 := hq103
      refine lv_aload_n hx hb dMo_plus_106 rfl (lv_at hl 1 rfl) ?_
      refine lv_iconst (v := iI 0) hx hb dMo_plus_107 rfl ?_
      refine lv_aload_n hx hb dMo_plus_108 rfl (lv_at hl 1 rfl) ?_
      refine va_get (D := (dC, dI)) (ci := 7) (v := .ref (mo + 3)) (C := "MacroReckonerModel") (T := TMo) (N := 23) hx hb hts inMo hown hK hP 0 rfl rfl 4 (by decide) (hts _ wt4_62) (fun _ h9 => h9) rfl dMo_plus_109 ?_
      refine lv_iload_n hx hb dMo_plus_112 rfl (lv_at hl 2 rfl) ?_
      refine iv_iald hx hb hK hP 3 0 rfl rfl (by decide) dMo_plus_113 (by omega) (by omega) ?_
      refine lv_iload hx hb dMo_plus_114 (lv_at hl 0 rfl) ?_
      refine cv_i (va_runV (C := "MacroReckonerModel") (As := [.int (iI 0), .int (iI (mS x)), .int (iI t9)]) (rest := []) ⟨hx, hb, hml, hown, hts⟩ (cMo_make l dC dI dA mo ft lf hg kk tx pn tk fm tO tl mI mT mS mC mL mB mF mU mX mP mK D1_103 Z1_103 0 (mS x) t9 (ab xa.v * PW 10 (max xa.sc yb.sc - xa.sc) - ab yb.v * PW 10 (max xa.sc yb.sc - yb.sc)) (xa.v * PW 10 (max xa.sc yb.sc - xa.sc) + w * PW 10 (max xa.sc yb.sc - yb.sc)) (by omega) (by exact hq103.1) (by have h := (pl_2 (P := 1) (Q := 1) hSx hw (by omega)).2.2.1; omega) (by omega) (by rw [← hw2]; exact (pl_2 hSx hw (by omega)).1) H.size) (cwV 3 hts (gdV wt4_195 wt4_197 ws4_3 wt1_8 wt4_198) rfl rfl rfl ⟨rfl, by decide, by decide, by decide +kernel⟩ ⟨by decide, by decide⟩) (preV (q := ("MacroReckonerModel", TMo, 23)) hK hP hD hS hA XN_ok trivial [0, 1, 2, 3, 4, 5, 6, 7, 8, 9, 10, 11, 12, 13] rfl rfl 0 rfl rfl) rfl rfl hl.1 rfl (lv_room (Nat.le_of_ble_eq_true rfl)) dMo_plus_116 ⟨Nat.zero_le _, Nat.zero_le _⟩) hP hD hS hA [0, 1, 2, 3, 4, 5, 6, 7, 8, 9, 10, 11, 12, 13] [] rfl (fun v_ => wMo dA mo ft lf hg kk tx pn tk fm tO tl mI v_.1 v_.2.1 v_.2.2.1 v_.2.2.2.1 v_.2.2.2.2 mF mU mX mP mK D1_103 Z1_103 []) (fun _ => rfl) ([] : va_W) rfl (fun _ => rfl) [mo, mo + 1, mo + 2, mo + 3, mo + 4, mo + 5, mo + 6, mo + 7, mo + 8, mo + 9, mo + 10, mo + 11, mo + 12, mo + 13] rfl (fun _ => rfl) (fun _ => rfl) (fun r116 u_ H locs hq116 hP hD hS => ?_)
      obtain ⟨T1_116, S1_116, C1_116, L1_116, B1_116⟩ := u_
      have hP : va_P (dC, dI) vwCl (wMo dA mo ft lf hg kk tx pn tk fm tO tl mI T1_116 S1_116 C1_116 L1_116 B1_116 mF mU mX mP mK D1_103 Z1_103 []) H := hP
      have hD : va_D A (wMo dA mo ft lf hg kk tx pn tk fm tO tl mI T1_116 S1_116 C1_116 L1_116 B1_116 mF mU mX mP mK D1_103 Z1_103 []) := hD
      have hq116 : mres r116 (xa.v * PW 10 (max xa.sc yb.sc - xa.sc) + w * PW 10 (max xa.sc yb.sc - yb.sc)) t9 T1_116 S1_116 C1_116 L1_116 B1_116 ∧ thO mT mS mC mL mB T1_116 S1_116 C1_116 L1_116 B1_116 46 := hq116
      exact rt_i hx hb hr hlocks hK hS dMo_plus_119 (T1_116, S1_116, C1_116, L1_116, B1_116, D1_103, Z1_103) hP hD (show mres r116 (xa.v * PW 10 (max xa.sc yb.sc - xa.sc) + w * PW 10 (max xa.sc yb.sc - yb.sc)) (max xa.sc yb.sc) T1_116 S1_116 C1_116 L1_116 B1_116 ∧ thO mT mS mC mL mB T1_116 S1_116 C1_116 L1_116 B1_116 46 from by rw [hq12] at hq116; exact hq116)
  · refine lv_aload_n hx hb dMo_plus_58 rfl (lv_at hl 1 rfl) ?_
    refine lv_iconst (v := iI 0) hx hb dMo_plus_59 rfl ?_
    refine lv_iconst (v := iI 1) hx hb dMo_plus_60 rfl ?_
    refine cv_v (va_runV (C := "MacroReckonerModel") (As := [.int (iI 0), .int (iI 1)]) (rest := []) ⟨hx, hb, hml, hown, hts⟩ (cMo_increase l dC dI dA mo ft lf hg kk tx pn tk fm tO tl mI mT mS mC mL mB mF mU mX mP mK D1_44 Z1_44 0 1 (ab xa.v * PW 10 (max xa.sc yb.sc - xa.sc)) (ab yb.v * PW 10 (max xa.sc yb.sc - yb.sc)) (by omega) (by exact h0) (by exact hq44.1) (by omega) H.size) (cwV 2 hts (gdV wt5_13 wt5_15 ws5_0 wt1_8 wt5_16) rfl rfl rfl ⟨rfl, by decide, by decide, by decide +kernel⟩ ⟨by decide, by decide⟩) (preV (q := ("MacroReckonerModel", TMo, 23)) hK hP hD hS hA XN_ok trivial [0, 1, 2, 3, 4, 5, 6, 7, 8, 9, 10, 11, 12, 13] rfl rfl 0 rfl rfl) rfl rfl hl.1 rfl (lv_room (Nat.le_of_ble_eq_true rfl)) dMo_plus_61 ⟨Nat.zero_le _, Nat.zero_le _⟩) hP hD hS hA [0, 1, 2, 3, 4, 5, 6, 7, 8, 9, 10, 11, 12, 13] [] rfl (fun v_ => wMo dA mo ft lf hg kk tx pn tk fm tO tl mI mT mS mC mL mB mF mU mX mP mK v_.1 v_.2 []) (fun _ => rfl) ([] : va_W) rfl (fun _ => rfl) [mo, mo + 1, mo + 2, mo + 3, mo + 4, mo + 5, mo + 6, mo + 7, mo + 8, mo + 9, mo + 10, mo + 11, mo + 12, mo + 13] rfl (fun _ => rfl) (fun _ => rfl) (fun u_ H locs hq61 hP hD hS => ?_)
    obtain ⟨D1_61, Z1_61⟩ := u_
    have hP : va_P (dC, dI) vwCl (wMo dA mo ft lf hg kk tx pn tk fm tO tl mI mT mS mC mL mB mF mU mX mP mK D1_61 Z1_61 []) H := hP
    have hD : va_D A (wMo dA mo ft lf hg kk tx pn tk fm tO tl mI mT mS mC mL mB mF mU mX mP mK D1_61 Z1_61 []) := hD
    have hq61 : MR D1_61 Z1_61 0 ((ab xa.v * PW 10 (max xa.sc yb.sc - xa.sc)) + (ab yb.v * PW 10 (max xa.sc yb.sc - yb.sc))) ∧ others D1_44 Z1_44 D1_61 Z1_61 0 := hq61
    refine lv_aload_n hx hb dMo_plus_64 rfl (lv_at hl 1 rfl) ?_
    refine lv_iconst (v := iI 0) hx hb dMo_plus_65 rfl ?_
    refine lv_aload_n hx hb dMo_plus_66 rfl (lv_at hl 1 rfl) ?_
    refine va_get (D := (dC, dI)) (ci := 7) (v := .ref (mo + 3)) (C := "MacroReckonerModel") (T := TMo) (N := 23) hx hb hts inMo hown hK hP 0 rfl rfl 4 (by decide) (hts _ wt4_62) (fun _ h9 => h9) rfl dMo_plus_67 ?_
    refine lv_iload_n hx hb dMo_plus_70 rfl (lv_at hl 2 rfl) ?_
    refine iv_iald hx hb hK hP 3 0 rfl rfl (by decide) dMo_plus_71 (by omega) (by omega) ?_
    refine iv_if_eq (tgt := 84) hx hb dMo_plus_72 (by decide) ⟨by omega, by omega⟩ (fun hc72 => ?_) (fun hc72 => ?_)
    · refine lv_iload_n hx hb dMo_plus_84 rfl (lv_at hl 4 rfl) ?_
      refine lv_iload hx hb dMo_plus_85 (lv_at hl 0 rfl) ?_
      refine cv_i (va_runV (C := "MacroReckonerModel") (As := [.int (iI 0), .int (iI ys), .int (iI t9)]) (rest := []) ⟨hx, hb, hml, hown, hts⟩ (cMo_make l dC dI dA mo ft lf hg kk tx pn tk fm tO tl mI mT mS mC mL mB mF mU mX mP mK D1_61 Z1_61 0 ys t9 (ab xa.v * PW 10 (max xa.sc yb.sc - xa.sc) + ab yb.v * PW 10 (max xa.sc yb.sc - yb.sc)) (xa.v * PW 10 (max xa.sc yb.sc - xa.sc) + w * PW 10 (max xa.sc yb.sc - yb.sc)) (by omega) (by exact hq61.1) (by rw [← hw2]; exact (pl_1 hSx hw (by omega) (by omega) hPp hQp).2) (by omega) (by rw [← hw2]; exact (pl_1 hSx hw (by omega) (by omega) hPp hQp).1) H.size) (cwV 3 hts (gdV wt4_195 wt4_197 ws4_3 wt1_8 wt4_198) rfl rfl rfl ⟨rfl, by decide, by decide, by decide +kernel⟩ ⟨by decide, by decide⟩) (preV (q := ("MacroReckonerModel", TMo, 23)) hK hP hD hS hA XN_ok trivial [0, 1, 2, 3, 4, 5, 6, 7, 8, 9, 10, 11, 12, 13] rfl rfl 0 rfl rfl) rfl rfl hl.1 rfl (lv_room (Nat.le_of_ble_eq_true rfl)) dMo_plus_87 ⟨Nat.zero_le _, Nat.zero_le _⟩) hP hD hS hA [0, 1, 2, 3, 4, 5, 6, 7, 8, 9, 10, 11, 12, 13] [] rfl (fun v_ => wMo dA mo ft lf hg kk tx pn tk fm tO tl mI v_.1 v_.2.1 v_.2.2.1 v_.2.2.2.1 v_.2.2.2.2 mF mU mX mP mK D1_61 Z1_61 []) (fun _ => rfl) ([] : va_W) rfl (fun _ => rfl) [mo, mo + 1, mo + 2, mo + 3, mo + 4, mo + 5, mo + 6, mo + 7, mo + 8, mo + 9, mo + 10, mo + 11, mo + 12, mo + 13] rfl (fun _ => rfl) (fun _ => rfl) (fun r87 u_ H locs hq87 hP hD hS => ?_)
      obtain ⟨T1_87, S1_87, C1_87, L1_87, B1_87⟩ := u_
      have hP : va_P (dC, dI) vwCl (wMo dA mo ft lf hg kk tx pn tk fm tO tl mI T1_87 S1_87 C1_87 L1_87 B1_87 mF mU mX mP mK D1_61 Z1_61 []) H := hP
      have hD : va_D A (wMo dA mo ft lf hg kk tx pn tk fm tO tl mI T1_87 S1_87 C1_87 L1_87 B1_87 mF mU mX mP mK D1_61 Z1_61 []) := hD
      have hq87 : mres r87 (xa.v * PW 10 (max xa.sc yb.sc - xa.sc) + w * PW 10 (max xa.sc yb.sc - yb.sc)) t9 T1_87 S1_87 C1_87 L1_87 B1_87 ∧ thO mT mS mC mL mB T1_87 S1_87 C1_87 L1_87 B1_87 46 := hq87
      exact rt_i hx hb hr hlocks hK hS dMo_plus_90 (T1_87, S1_87, C1_87, L1_87, B1_87, D1_61, Z1_61) hP hD (show mres r87 (xa.v * PW 10 (max xa.sc yb.sc - xa.sc) + w * PW 10 (max xa.sc yb.sc - yb.sc)) (max xa.sc yb.sc) T1_87 S1_87 C1_87 L1_87 B1_87 ∧ thO mT mS mC mL mB T1_87 S1_87 C1_87 L1_87 B1_87 46 from by rw [hq12] at hq87; exact hq87)
    · refine lv_aload_n hx hb dMo_plus_75 rfl (lv_at hl 1 rfl) ?_
      refine va_get (D := (dC, dI)) (ci := 7) (v := .ref (mo + 3)) (C := "MacroReckonerModel") (T := TMo) (N := 23) hx hb hts inMo hown hK hP 0 rfl rfl 4 (by decide) (hts _ wt4_62) (fun _ h9 => h9) rfl dMo_plus_76 ?_
      refine lv_iload_n hx hb dMo_plus_79 rfl (lv_at hl 2 rfl) ?_
      refine iv_iald hx hb hK hP 3 0 rfl rfl (by decide) dMo_plus_80 (by omega) (by omega) ?_
      refine lv_goto (tgt := 85) hx hb dMo_plus_81 (by decide) ?_
      refine lv_iload hx hb dMo_plus_85 (lv_at hl 0 rfl) ?_
      refine cv_i (va_runV (C := "MacroReckonerModel") (As := [.int (iI 0), .int (iI (mS x)), .int (iI t9)]) (rest := []) ⟨hx, hb, hml, hown, hts⟩ (cMo_make l dC dI dA mo ft lf hg kk tx pn tk fm tO tl mI mT mS mC mL mB mF mU mX mP mK D1_61 Z1_61 0 (mS x) t9 (ab xa.v * PW 10 (max xa.sc yb.sc - xa.sc) + ab yb.v * PW 10 (max xa.sc yb.sc - yb.sc)) (xa.v * PW 10 (max xa.sc yb.sc - xa.sc) + w * PW 10 (max xa.sc yb.sc - yb.sc)) (by omega) (by exact hq61.1) (by rw [← hw2]; exact (pl_1 hSx hw (by omega) (by omega) hPp hQp).2) (by omega) (by rw [← hw2]; exact (pl_1 hSx hw (by omega) (by omega) hPp hQp).1) H.size) (cwV 3 hts (gdV wt4_195 wt4_197 ws4_3 wt1_8 wt4_198) rfl rfl rfl ⟨rfl, by decide, by decide, by decide +kernel⟩ ⟨by decide, by decide⟩) (preV (q := ("MacroReckonerModel", TMo, 23)) hK hP hD hS hA XN_ok trivial [0, 1, 2, 3, 4, 5, 6, 7, 8, 9, 10, 11, 12, 13] rfl rfl 0 rfl rfl) rfl rfl hl.1 rfl (lv_room (Nat.le_of_ble_eq_true rfl)) dMo_plus_87 ⟨Nat.zero_le _, Nat.zero_le _⟩) hP hD hS hA [0, 1, 2, 3, 4, 5, 6, 7, 8, 9, 10, 11, 12, 13] [] rfl (fun v_ => wMo dA mo ft lf hg kk tx pn tk fm tO tl mI v_.1 v_.2.1 v_.2.2.1 v_.2.2.2.1 v_.2.2.2.2 mF mU mX mP mK D1_61 Z1_61 []) (fun _ => rfl) ([] : va_W) rfl (fun _ => rfl) [mo, mo + 1, mo + 2, mo + 3, mo + 4, mo + 5, mo + 6, mo + 7, mo + 8, mo + 9, mo + 10, mo + 11, mo + 12, mo + 13] rfl (fun _ => rfl) (fun _ => rfl) (fun r87 u_ H locs hq87 hP hD hS => ?_)
      obtain ⟨T1_87, S1_87, C1_87, L1_87, B1_87⟩ := u_
      have hP : va_P (dC, dI) vwCl (wMo dA mo ft lf hg kk tx pn tk fm tO tl mI T1_87 S1_87 C1_87 L1_87 B1_87 mF mU mX mP mK D1_61 Z1_61 []) H := hP
      have hD : va_D A (wMo dA mo ft lf hg kk tx pn tk fm tO tl mI T1_87 S1_87 C1_87 L1_87 B1_87 mF mU mX mP mK D1_61 Z1_61 []) := hD
      have hq87 : mres r87 (xa.v * PW 10 (max xa.sc yb.sc - xa.sc) + w * PW 10 (max xa.sc yb.sc - yb.sc)) t9 T1_87 S1_87 C1_87 L1_87 B1_87 ∧ thO mT mS mC mL mB T1_87 S1_87 C1_87 L1_87 B1_87 46 := hq87
      exact rt_i hx hb hr hlocks hK hS dMo_plus_90 (T1_87, S1_87, C1_87, L1_87, B1_87, D1_61, Z1_61) hP hD (show mres r87 (xa.v * PW 10 (max xa.sc yb.sc - xa.sc) + w * PW 10 (max xa.sc yb.sc - yb.sc)) (max xa.sc yb.sc) T1_87 S1_87 C1_87 L1_87 B1_87 ∧ thO mT mS mC mL mB T1_87 S1_87 C1_87 L1_87 B1_87 46 from by rw [hq12] at hq87; exact hq87)

theorem dMo_times_0 : decode prog_9_method_21_code 0 = .ok (.aload_n 0, 1) := by decide +kernel
theorem dMo_times_1 : decode prog_9_method_21_code 1 = .ok (.iconst 0, 1) := by decide +kernel
theorem dMo_times_2 : decode prog_9_method_21_code 2 = .ok (.iload_n 1, 1) := by decide +kernel
theorem dMo_times_3 : decode prog_9_method_21_code 3 = .ok (.iconst 0, 1) := by decide +kernel
theorem dMo_times_4 : decode prog_9_method_21_code 4 = .ok (.invokevirtual 92, 3) := by decide +kernel
theorem dMo_times_7 : decode prog_9_method_21_code 7 = .ok (.aload_n 0, 1) := by decide +kernel
theorem dMo_times_8 : decode prog_9_method_21_code 8 = .ok (.iconst 1, 1) := by decide +kernel
theorem dMo_times_9 : decode prog_9_method_21_code 9 = .ok (.iload_n 2, 1) := by decide +kernel
theorem dMo_times_10 : decode prog_9_method_21_code 10 = .ok (.iconst 0, 1) := by decide +kernel
theorem dMo_times_11 : decode prog_9_method_21_code 11 = .ok (.invokevirtual 92, 3) := by decide +kernel
theorem dMo_times_14 : decode prog_9_method_21_code 14 = .ok (.aload_n 0, 1) := by decide +kernel
theorem dMo_times_15 : decode prog_9_method_21_code 15 = .ok (.iconst 2, 1) := by decide +kernel
theorem dMo_times_16 : decode prog_9_method_21_code 16 = .ok (.iconst 0, 1) := by decide +kernel
theorem dMo_times_17 : decode prog_9_method_21_code 17 = .ok (.iconst 1, 1) := by decide +kernel
theorem dMo_times_18 : decode prog_9_method_21_code 18 = .ok (.invokevirtual 95, 3) := by decide +kernel
theorem dMo_times_21 : decode prog_9_method_21_code 21 = .ok (.aload_n 0, 1) := by decide +kernel
theorem dMo_times_22 : decode prog_9_method_21_code 22 = .ok (.getfield 20, 3) := by decide +kernel
theorem dMo_times_25 : decode prog_9_method_21_code 25 = .ok (.iload_n 1, 1) := by decide +kernel
theorem dMo_times_26 : decode prog_9_method_21_code 26 = .ok (.iaload, 1) := by decide +kernel
theorem dMo_times_27 : decode prog_9_method_21_code 27 = .ok (.aload_n 0, 1) := by decide +kernel
theorem dMo_times_28 : decode prog_9_method_21_code 28 = .ok (.getfield 20, 3) := by decide +kernel
theorem dMo_times_31 : decode prog_9_method_21_code 31 = .ok (.iload_n 2, 1) := by decide +kernel
theorem dMo_times_32 : decode prog_9_method_21_code 32 = .ok (.iaload, 1) := by decide +kernel
theorem dMo_times_33 : decode prog_9_method_21_code 33 = .ok (.iadd, 1) := by decide +kernel
theorem dMo_times_34 : decode prog_9_method_21_code 34 = .ok (.istore_n 3, 1) := by decide +kernel
theorem dMo_times_35 : decode prog_9_method_21_code 35 = .ok (.aload_n 0, 1) := by decide +kernel
theorem dMo_times_36 : decode prog_9_method_21_code 36 = .ok (.getfield 98, 3) := by decide +kernel
theorem dMo_times_39 : decode prog_9_method_21_code 39 = .ok (.aload_n 0, 1) := by decide +kernel
theorem dMo_times_40 : decode prog_9_method_21_code 40 = .ok (.getfield 20, 3) := by decide +kernel
theorem dMo_times_43 : decode prog_9_method_21_code 43 = .ok (.iload_n 1, 1) := by decide +kernel
theorem dMo_times_44 : decode prog_9_method_21_code 44 = .ok (.iaload, 1) := by decide +kernel
theorem dMo_times_45 : decode prog_9_method_21_code 45 = .ok (.aload_n 0, 1) := by decide +kernel
theorem dMo_times_46 : decode prog_9_method_21_code 46 = .ok (.getfield 20, 3) := by decide +kernel
theorem dMo_times_49 : decode prog_9_method_21_code 49 = .ok (.iload_n 2, 1) := by decide +kernel
theorem dMo_times_50 : decode prog_9_method_21_code 50 = .ok (.iaload, 1) := by decide +kernel
theorem dMo_times_51 : decode prog_9_method_21_code 51 = .ok (.invokestatic 89, 3) := by decide +kernel
theorem dMo_times_54 : decode prog_9_method_21_code 54 = .ok (.invokestatic 89, 3) := by decide +kernel
theorem dMo_times_57 : decode prog_9_method_21_code 57 = .ok (.istore 4, 2) := by decide +kernel
theorem dMo_times_59 : decode prog_9_method_21_code 59 = .ok (.iload 4, 2) := by decide +kernel
theorem dMo_times_61 : decode prog_9_method_21_code 61 = .ok (.iload_n 3, 1) := by decide +kernel
theorem dMo_times_62 : decode prog_9_method_21_code 62 = .ok (.if_icmp .ge 8, 3) := by decide +kernel
theorem dMo_times_65 : decode prog_9_method_21_code 65 = .ok (.iload 4, 2) := by decide +kernel
theorem dMo_times_67 : decode prog_9_method_21_code 67 = .ok (.goto 4, 3) := by decide +kernel
theorem dMo_times_70 : decode prog_9_method_21_code 70 = .ok (.iload_n 3, 1) := by decide +kernel
theorem dMo_times_71 : decode prog_9_method_21_code 71 = .ok (.istore 4, 2) := by decide +kernel
theorem dMo_times_73 : decode prog_9_method_21_code 73 = .ok (.aload_n 0, 1) := by decide +kernel
theorem dMo_times_74 : decode prog_9_method_21_code 74 = .ok (.iconst 2, 1) := by decide +kernel
theorem dMo_times_75 : decode prog_9_method_21_code 75 = .ok (.iload_n 3, 1) := by decide +kernel
theorem dMo_times_76 : decode prog_9_method_21_code 76 = .ok (.iload 4, 2) := by decide +kernel
theorem dMo_times_78 : decode prog_9_method_21_code 78 = .ok (.isub, 1) := by decide +kernel
theorem dMo_times_79 : decode prog_9_method_21_code 79 = .ok (.invokevirtual 101, 3) := by decide +kernel
theorem dMo_times_82 : decode prog_9_method_21_code 82 = .ok (.aload_n 0, 1) := by decide +kernel
theorem dMo_times_83 : decode prog_9_method_21_code 83 = .ok (.iconst 2, 1) := by decide +kernel
theorem dMo_times_84 : decode prog_9_method_21_code 84 = .ok (.aload_n 0, 1) := by decide +kernel
theorem dMo_times_85 : decode prog_9_method_21_code 85 = .ok (.getfield 17, 3) := by decide +kernel
theorem dMo_times_88 : decode prog_9_method_21_code 88 = .ok (.iload_n 1, 1) := by decide +kernel
theorem dMo_times_89 : decode prog_9_method_21_code 89 = .ok (.iaload, 1) := by decide +kernel
theorem dMo_times_90 : decode prog_9_method_21_code 90 = .ok (.aload_n 0, 1) := by decide +kernel
theorem dMo_times_91 : decode prog_9_method_21_code 91 = .ok (.getfield 17, 3) := by decide +kernel
theorem dMo_times_94 : decode prog_9_method_21_code 94 = .ok (.iload_n 2, 1) := by decide +kernel
theorem dMo_times_95 : decode prog_9_method_21_code 95 = .ok (.iaload, 1) := by decide +kernel
theorem dMo_times_96 : decode prog_9_method_21_code 96 = .ok (.imul, 1) := by decide +kernel
theorem dMo_times_97 : decode prog_9_method_21_code 97 = .ok (.iload 4, 2) := by decide +kernel
theorem dMo_times_99 : decode prog_9_method_21_code 99 = .ok (.invokevirtual 79, 3) := by decide +kernel
theorem dMo_times_102 : decode prog_9_method_21_code 102 = .ok (.ireturn, 1) := by decide +kernel
abbrev qMo_times (dC : Nat → ClassId) (dI : Nat → Nat → Nat) (dA : Nat → ClassId) (mo : Nat) (ft : Int) (lf : Int) (hg : Int) (kk : Int) (tx : Int) (pn : Int) (tk : Int) (fm : Int) (tO : Int) (tl : Int) (mI : Int → Int) (mT : Int → Int) (mS : Int → Int) (mC : Int → Int) (mL : Int → Int) (mB : Int → Int) (mF : Int → Int) (mU : Int → Int) (mX : Int → Int) (mP : Int → Int) (mK : Int → Int) (mD : Int → Int) (mZ : Int → Int) (x : Int) (y : Int) (xa : Th) (yb : Th) (A : Nat → Prop) : Array Value → State → Outcome → State → Prop := QI (dC, dI) vwCl (tyA dA) (fun (r : Int) (v_ : (Int → Int) × (Int → Int) × (Int → Int) × (Int → Int) × (Int → Int) × (Int → Int) × (Int → Int)) => mres r (tq (xa.v * yb.v) (PW 10 (xa.sc + yb.sc - min (xa.sc + yb.sc) (max kk (max xa.sc yb.sc))))) (min (xa.sc + yb.sc) (max kk (max xa.sc yb.sc))) v_.1 v_.2.1 v_.2.2.1 v_.2.2.2.1 v_.2.2.2.2.1 ∧ thO mT mS mC mL mB v_.1 v_.2.1 v_.2.2.1 v_.2.2.2.1 v_.2.2.2.2.1 46) (fun (v_ : (Int → Int) × (Int → Int) × (Int → Int) × (Int → Int) × (Int → Int) × (Int → Int) × (Int → Int)) => wMo dA mo ft lf hg kk tx pn tk fm tO tl mI v_.1 v_.2.1 v_.2.2.1 v_.2.2.2.1 v_.2.2.2.2.1 mF mU mX mP mK v_.2.2.2.2.2.1 v_.2.2.2.2.2.2 []) A
abbrev rmMo_times : Room := { frames := 2, cells := 0, slots := 0, locals := 48 }
set_option maxRecDepth 100000 in
set_option maxHeartbeats 1000000 in
theorem cMo_times (l : Launch) (dC : Nat → ClassId) (dI : Nat → Nat → Nat) (dA : Nat → ClassId) (mo : Nat) (ft : Int) (lf : Int) (hg : Int) (kk : Int) (tx : Int) (pn : Int) (tk : Int) (fm : Int) (tO : Int) (tl : Int) (mI : Int → Int) (mT : Int → Int) (mS : Int → Int) (mC : Int → Int) (mL : Int → Int) (mB : Int → Int) (mF : Int → Int) (mU : Int → Int) (mX : Int → Int) (mP : Int → Int) (mK : Int → Int) (mD : Int → Int) (mZ : Int → Int) (x : Int) (y : Int) (xa : Th) (yb : Th) (hxy : 0 ≤ x ∧ x ≤ 46 ∧ 0 ≤ y ∧ y ≤ 46) (hTa : MT mT mS mC mL mB x xa) (hta : xa.t = 0) (hTb : MT mT mS mC mL mB y yb) (htb : yb.t = 0) (hkk : 0 ≤ kk ∧ kk ≤ 40) (sz : Nat) : Met l yMo_times wsMo_times rmMo_times (PC (dC, dI) vwCl (tyA dA) XN [.ref mo, .int (iI x), .int (iI y)] (wMo dA mo ft lf hg kk tx pn tk fm tO tl mI mT mS mC mL mB mF mU mX mP mK mD mZ []) sz) (qMo_times dC dI dA mo ft lf hg kk tx pn tk fm tO tl mI mT mS mC mL mB mF mU mX mP mK mD mZ x y xa yb (va_A (wMo dA mo ft lf hg kk tx pn tk fm tO tl mI mT mS mC mL mB mF mU mX mP mK mD mZ []) sz)) 0 0 (va_A (wMo dA mo ft lf hg kk tx pn tk fm tO tl mI mT mS mC mL mB mF mU mX mP mK mD mZ []) sz) := by
  refine met_of (cc := prog_9_method_21_code) (maxL := 5) (ret := (some .int)) (Qc := qMo_times dC dI dA mo ft lf hg kk tx pn tk fm tO tl mI mT mS mC mL mB mF mU mX mP mK mD mZ x y xa yb) XN_ok (by decide) rfl (Nat.le_of_ble_eq_true rfl) ?_
  intro p e s m below meth c ls A hx hb hr hml hown hts hlocks hnm hK hP hD hA hX hS hl
  have hl : lv_has ls 5 [(0, .ref mo), (1, .int (iI x)), (2, .int (iI y))] := hl
  have hown : s.vm.findClass "MacroReckonerModel" = some m.cls := hown
  obtain ⟨H, hH⟩ : ∃ H : Heap, H = s.heap := ⟨_, rfl⟩
  obtain ⟨locs, hlo⟩ : ∃ L : List Loc, L = [] := ⟨_, rfl⟩
  have hP : va_P (dC, dI) vwCl (wMo dA mo ft lf hg kk tx pn tk fm tO tl mI mT mS mC mL mB mF mU mX mP mK mD mZ []) H := hH ▸ hP
  have hS : va_S A s.heap H locs := by rw [hH, hlo]; exact hS
  suffices hgo : W p l e rmMo_times s m [.ref mo, .int (iI x), .int (iI y)].toArray below meth c H locs 0 0 (MQ below (qMo_times dC dI dA mo ft lf hg kk tx pn tk fm tO tl mI mT mS mC mL mB mF mU mX mP mK mD mZ x y xa yb A) [.ref mo, .int (iI x), .int (iI y)].toArray s 0 0 A) (F0 m 0 ls []) by rw [hH, hlo] at hgo; exact hgo
  clear hH hlo
  obtain ⟨hCx, hscx, hTx, hSx⟩ := MT_n hTa hta
  have hbx := TD_bd hTx
  have hlx := (MT_b hTa).2.2.2.2
  obtain ⟨hCy, hscy, hTy, hSy⟩ := MT_n hTb htb
  have hby := TD_bd hTy
  have hly := (MT_b hTb).2.2.2.2
  refine lv_aload_n hx hb dMo_times_0 rfl (lv_at hl 0 rfl) ?_
  refine lv_iconst (v := iI 0) hx hb dMo_times_1 rfl ?_
  refine lv_iload_n hx hb dMo_times_2 rfl (lv_at hl 1 rfl) ?_
  refine lv_iconst (v := iI 0) hx hb dMo_times_3 rfl ?_
  refine cv_v (va_runV (C := "MacroReckonerModel") (As := [.int (iI 0), .int (iI x), .int (iI 0)]) (rest := []) ⟨hx, hb, hml, hown, hts⟩ (cMo_load l dC dI dA mo ft lf hg kk tx pn tk fm tO tl mI mT mS mC mL mB mF mU mX mP mK mD mZ 0 x 0 (ab xa.v) (by omega) (by omega) (by exact hTx) H.size) (cwV 3 hts (gdV wt4_226 wt4_228 ws4_10 wt1_8 wt4_229) rfl rfl rfl ⟨rfl, by decide, by decide, by decide +kernel⟩ ⟨by decide, by decide⟩) (preV (q := ("MacroReckonerModel", TMo, 23)) hK hP hD hS hA XN_ok trivial [0, 1, 2, 3, 4, 5, 6, 7, 8, 9, 10, 11, 12, 13] rfl rfl 0 rfl rfl) rfl rfl hl.1 rfl (lv_room (Nat.le_of_ble_eq_true rfl)) dMo_times_4 ⟨Nat.zero_le _, Nat.zero_le _⟩) hP hD hS hA [0, 1, 2, 3, 4, 5, 6, 7, 8, 9, 10, 11, 12, 13] [] rfl (fun v_ => wMo dA mo ft lf hg kk tx pn tk fm tO tl mI mT mS mC mL mB mF mU mX mP mK v_.1 v_.2 []) (fun _ => rfl) ([] : va_W) rfl (fun _ => rfl) [mo, mo + 1, mo + 2, mo + 3, mo + 4, mo + 5, mo + 6, mo + 7, mo + 8, mo + 9, mo + 10, mo + 11, mo + 12, mo + 13] rfl (fun _ => rfl) (fun _ => rfl) (fun u_ H locs hq4 hP hD hS => ?_)
  obtain ⟨D1_4, Z1_4⟩ := u_
  have hP : va_P (dC, dI) vwCl (wMo dA mo ft lf hg kk tx pn tk fm tO tl mI mT mS mC mL mB mF mU mX mP mK D1_4 Z1_4 []) H := hP
  have hD : va_D A (wMo dA mo ft lf hg kk tx pn tk fm tO tl mI mT mS mC mL mB mF mU mX mP mK D1_4 Z1_4 []) := hD
  have hq4 : MR D1_4 Z1_4 0 ((ab xa.v) * PW 10 0) ∧ others mD mZ D1_4 Z1_4 0 := hq4
  rw [PW_0, Int.mul_one] at hq4
  refine lv_aload_n hx hb dMo_times_7 rfl (lv_at hl 0 rfl) ?_
  refine lv_iconst (v := iI 1) hx hb dMo_times_8 rfl ?_
  refine lv_iload_n hx hb dMo_times_9 rfl (lv_at hl 2 rfl) ?_
  refine lv_iconst (v := iI 0) hx hb dMo_times_10 rfl ?_
  refine cv_v (va_runV (C := "MacroReckonerModel") (As := [.int (iI 1), .int (iI y), .int (iI 0)]) (rest := []) ⟨hx, hb, hml, hown, hts⟩ (cMo_load l dC dI dA mo ft lf hg kk tx pn tk fm tO tl mI mT mS mC mL mB mF mU mX mP mK D1_4 Z1_4 1 y 0 (ab yb.v) (by omega) (by omega) (by exact hTy) H.size) (cwV 3 hts (gdV wt4_226 wt4_228 ws4_10 wt1_8 wt4_229) rfl rfl rfl ⟨rfl, by decide, by decide, by decide +kernel⟩ ⟨by decide, by decide⟩) (preV (q := ("MacroReckonerModel", TMo, 23)) hK hP hD hS hA XN_ok trivial [0, 1, 2, 3, 4, 5, 6, 7, 8, 9, 10, 11, 12, 13] rfl rfl 0 rfl rfl) rfl rfl hl.1 rfl (lv_room (Nat.le_of_ble_eq_true rfl)) dMo_times_11 ⟨Nat.zero_le _, Nat.zero_le _⟩) hP hD hS hA [0, 1, 2, 3, 4, 5, 6, 7, 8, 9, 10, 11, 12, 13] [] rfl (fun v_ => wMo dA mo ft lf hg kk tx pn tk fm tO tl mI mT mS mC mL mB mF mU mX mP mK v_.1 v_.2 []) (fun _ => rfl) ([] : va_W) rfl (fun _ => rfl) [mo, mo + 1, mo + 2, mo + 3, mo + 4, mo + 5, mo + 6, mo + 7, mo + 8, mo + 9, mo + 10, mo + 11, mo + 12, mo + 13] rfl (fun _ => rfl) (fun _ => rfl) (fun u_ H locs hq11 hP hD hS => ?_)
  obtain ⟨D1_11, Z1_11⟩ := u_
  have hP : va_P (dC, dI) vwCl (wMo dA mo ft lf hg kk tx pn tk fm tO tl mI mT mS mC mL mB mF mU mX mP mK D1_11 Z1_11 []) H := hP
  have hD : va_D A (wMo dA mo ft lf hg kk tx pn tk fm tO tl mI mT mS mC mL mB mF mU mX mP mK D1_11 Z1_11 []) := hD
  have hq11 : MR D1_11 Z1_11 1 ((ab yb.v) * PW 10 0) ∧ others D1_4 Z1_4 D1_11 Z1_11 1 := hq11
  rw [PW_0, Int.mul_one] at hq11
  have h0 := MR_o hq11.2 (by decide) hq4.1
  have hz0 := M_sz h0 hbx.2 (by decide)
  have hz1 := M_sz hq11.1 hby.2 (by decide)
  refine lv_aload_n hx hb dMo_times_14 rfl (lv_at hl 0 rfl) ?_
  refine lv_iconst (v := iI 2) hx hb dMo_times_15 rfl ?_
  refine lv_iconst (v := iI 0) hx hb dMo_times_16 rfl ?_
  refine lv_iconst (v := iI 1) hx hb dMo_times_17 rfl ?_
  refine cv_v (va_runV (C := "MacroReckonerModel") (As := [.int (iI 2), .int (iI 0), .int (iI 1)]) (rest := []) ⟨hx, hb, hml, hown, hts⟩ (cMo_multiply l dC dI dA mo ft lf hg kk tx pn tk fm tO tl mI mT mS mC mL mB mF mU mX mP mK D1_11 Z1_11 2 0 1 (ab xa.v) (ab yb.v) (by omega) (by exact h0) (by exact hq11.1) (by omega) H.size) (cwV 3 hts (gdV wt5_25 wt5_27 ws5_3 wt1_8 wt5_28) rfl rfl rfl ⟨rfl, by decide, by decide, by decide +kernel⟩ ⟨by decide, by decide⟩) (preV (q := ("MacroReckonerModel", TMo, 23)) hK hP hD hS hA XN_ok trivial [0, 1, 2, 3, 4, 5, 6, 7, 8, 9, 10, 11, 12, 13] rfl rfl 0 rfl rfl) rfl rfl hl.1 rfl (lv_room (Nat.le_of_ble_eq_true rfl)) dMo_times_18 ⟨Nat.zero_le _, Nat.zero_le _⟩) hP hD hS hA [0, 1, 2, 3, 4, 5, 6, 7, 8, 9, 10, 11, 12, 13] [] rfl (fun v_ => wMo dA mo ft lf hg kk tx pn tk fm tO tl mI mT mS mC mL mB mF mU mX mP mK v_.1 v_.2 []) (fun _ => rfl) ([] : va_W) rfl (fun _ => rfl) [mo, mo + 1, mo + 2, mo + 3, mo + 4, mo + 5, mo + 6, mo + 7, mo + 8, mo + 9, mo + 10, mo + 11, mo + 12, mo + 13] rfl (fun _ => rfl) (fun _ => rfl) (fun u_ H locs hq18 hP hD hS => ?_)
  obtain ⟨D1_18, Z1_18⟩ := u_
  have hP : va_P (dC, dI) vwCl (wMo dA mo ft lf hg kk tx pn tk fm tO tl mI mT mS mC mL mB mF mU mX mP mK D1_18 Z1_18 []) H := hP
  have hD : va_D A (wMo dA mo ft lf hg kk tx pn tk fm tO tl mI mT mS mC mL mB mF mU mX mP mK D1_18 Z1_18 []) := hD
  have hq18 : MR D1_18 Z1_18 2 ((ab xa.v) * (ab yb.v)) ∧ others D1_11 Z1_11 D1_18 Z1_18 2 := hq18
  rw [← ab_mul] at hq18
  refine lv_aload_n hx hb dMo_times_21 rfl (lv_at hl 0 rfl) ?_
  refine va_get (D := (dC, dI)) (ci := 7) (v := .ref (mo + 4)) (C := "MacroReckonerModel") (T := TMo) (N := 23) hx hb hts inMo hown hK hP 0 rfl rfl 5 (by decide) (hts _ wt4_63) (fun _ h9 => h9) rfl dMo_times_22 ?_
  refine lv_iload_n hx hb dMo_times_25 rfl (lv_at hl 1 rfl) ?_
  refine iv_iald hx hb hK hP 4 0 rfl rfl (by decide) dMo_times_26 (by omega) (by omega) ?_
  refine lv_aload_n hx hb dMo_times_27 rfl (lv_at hl 0 rfl) ?_
  refine va_get (D := (dC, dI)) (ci := 7) (v := .ref (mo + 4)) (C := "MacroReckonerModel") (T := TMo) (N := 23) hx hb hts inMo hown hK hP 0 rfl rfl 5 (by decide) (hts _ wt4_63) (fun _ h9 => h9) rfl dMo_times_28 ?_
  refine lv_iload_n hx hb dMo_times_31 rfl (lv_at hl 2 rfl) ?_
  refine iv_iald hx hb hK hP 4 0 rfl rfl (by decide) dMo_times_32 (by omega) (by omega) ?_
  refine iv_iadd hx hb dMo_times_33 ?_
  refine lv_istore_n (lv' := [(3, .int (iI ((mC x) + (mC y)))), (0, .ref mo), (1, .int (iI x)), (2, .int (iI y))]) hx hb dMo_times_34 rfl hl (by decide) rfl (fun ls hl => ?_)
  refine lv_aload_n hx hb dMo_times_35 rfl (lv_at hl 1 rfl) ?_
  refine va_get (D := (dC, dI)) (ci := 7) (v := .int (iI kk)) (C := "MacroReckonerModel") (T := TMo) (N := 23) hx hb hts inMo hown hK hP 0 rfl rfl 9 (by decide) (hts _ wt4_67) (fun _ h9 => h9) rfl dMo_times_36 ?_
  refine lv_aload_n hx hb dMo_times_39 rfl (lv_at hl 1 rfl) ?_
  refine va_get (D := (dC, dI)) (ci := 7) (v := .ref (mo + 4)) (C := "MacroReckonerModel") (T := TMo) (N := 23) hx hb hts inMo hown hK hP 0 rfl rfl 5 (by decide) (hts _ wt4_63) (fun _ h9 => h9) rfl dMo_times_40 ?_
  refine lv_iload_n hx hb dMo_times_43 rfl (lv_at hl 2 rfl) ?_
  refine iv_iald hx hb hK hP 4 0 rfl rfl (by decide) dMo_times_44 (by omega) (by omega) ?_
  refine lv_aload_n hx hb dMo_times_45 rfl (lv_at hl 1 rfl) ?_
  refine va_get (D := (dC, dI)) (ci := 7) (v := .ref (mo + 4)) (C := "MacroReckonerModel") (T := TMo) (N := 23) hx hb hts inMo hown hK hP 0 rfl rfl 5 (by decide) (hts _ wt4_63) (fun _ h9 => h9) rfl dMo_times_46 ?_
  refine lv_iload_n hx hb dMo_times_49 rfl (lv_at hl 3 rfl) ?_
  refine iv_iald hx hb hK hP 4 0 rfl rfl (by decide) dMo_times_50 (by omega) (by omega) ?_
  refine cv_i (va_runS (As := [.int (iI (mC x)), .int (iI (mC y))]) (rest := [.int (iI kk)]) ⟨hx, hb, hml, hown, hts⟩ (cMo_greater l dC dI dA (mC x) (mC y) (by omega) H.size) (cwS 2 hts (gdS wt4_223 wt4_224 wt1_8 wt4_225) rfl rfl rfl ⟨rfl, by decide, by decide, by decide +kernel⟩ ⟨by decide, by decide⟩) (preS hK hP hD hS hA XN_ok trivial [] rfl rfl) rfl rfl hl.1 rfl (lv_room (Nat.le_of_ble_eq_true rfl)) dMo_times_51 ⟨Nat.zero_le _, Nat.zero_le _⟩) hP hD hS hA [] [0, 1, 2, 3, 4, 5, 6, 7, 8, 9, 10, 11, 12, 13] rfl (fun v_ => wMo dA mo ft lf hg kk tx pn tk fm tO tl mI mT mS mC mL mB mF mU mX mP mK D1_18 Z1_18 []) (fun _ => rfl) (wMo dA mo ft lf hg kk tx pn tk fm tO tl mI mT mS mC mL mB mF mU mX mP mK D1_18 Z1_18 []) rfl (fun _ => rfl) [mo, mo + 1, mo + 2, mo + 3, mo + 4, mo + 5, mo + 6, mo + 7, mo + 8, mo + 9, mo + 10, mo + 11, mo + 12, mo + 13] rfl (fun _ => rfl) (fun _ => rfl) (fun g1 u_ H locs hq51 hP hD hS => ?_)
  have hP : va_P (dC, dI) vwCl (wMo dA mo ft lf hg kk tx pn tk fm tO tl mI mT mS mC mL mB mF mU mX mP mK D1_18 Z1_18 []) H := hP
  have hD : va_D A (wMo dA mo ft lf hg kk tx pn tk fm tO tl mI mT mS mC mL mB mF mU mX mP mK D1_18 Z1_18 []) := hD
  have hq51 : g1 = max (mC x) (mC y) := hq51
  refine cv_i (va_runS (As := [.int (iI kk), .int (iI g1)]) (rest := []) ⟨hx, hb, hml, hown, hts⟩ (cMo_greater l dC dI dA kk g1 (by omega) H.size) (cwS 2 hts (gdS wt4_223 wt4_224 wt1_8 wt4_225) rfl rfl rfl ⟨rfl, by decide, by decide, by decide +kernel⟩ ⟨by decide, by decide⟩) (preS hK hP hD hS hA XN_ok trivial [] rfl rfl) rfl rfl hl.1 rfl (lv_room (Nat.le_of_ble_eq_true rfl)) dMo_times_54 ⟨Nat.zero_le _, Nat.zero_le _⟩) hP hD hS hA [] [0, 1, 2, 3, 4, 5, 6, 7, 8, 9, 10, 11, 12, 13] rfl (fun v_ => wMo dA mo ft lf hg kk tx pn tk fm tO tl mI mT mS mC mL mB mF mU mX mP mK D1_18 Z1_18 []) (fun _ => rfl) (wMo dA mo ft lf hg kk tx pn tk fm tO tl mI mT mS mC mL mB mF mU mX mP mK D1_18 Z1_18 []) rfl (fun _ => rfl) [mo, mo + 1, mo + 2, mo + 3, mo + 4, mo + 5, mo + 6, mo + 7, mo + 8, mo + 9, mo + 10, mo + 11, mo + 12, mo + 13] rfl (fun _ => rfl) (fun _ => rfl) (fun t9 u_ H locs hq54 hP hD hS => ?_)
  have hP : va_P (dC, dI) vwCl (wMo dA mo ft lf hg kk tx pn tk fm tO tl mI mT mS mC mL mB mF mU mX mP mK D1_18 Z1_18 []) H := hP
  have hD : va_D A (wMo dA mo ft lf hg kk tx pn tk fm tO tl mI mT mS mC mL mB mF mU mX mP mK D1_18 Z1_18 []) := hD
  have hq54 : t9 = max kk g1 := hq54
  refine lv_istore (lv' := [(4, .int (iI t9)), (3, .int (iI ((mC x) + (mC y)))), (0, .ref mo), (1, .int (iI x)), (2, .int (iI y))]) hx hb dMo_times_57 hl (by decide) rfl (fun ls hl => ?_)
  refine lv_iload hx hb dMo_times_59 (lv_at hl 0 rfl) ?_
  refine lv_iload_n hx hb dMo_times_61 rfl (lv_at hl 1 rfl) ?_
  refine iv_icmp_ge (tgt := 70) hx hb dMo_times_62 (by decide) ⟨by omega, by omega⟩ ⟨by omega, by omega⟩ (fun hc62 => ?_) (fun hc62 => ?_)
  · refine lv_iload_n hx hb dMo_times_70 rfl (lv_at hl 1 rfl) ?_
    refine lv_istore (lv' := [(4, .int (iI ((mC x) + (mC y)))), (3, .int (iI ((mC x) + (mC y)))), (0, .ref mo), (1, .int (iI x)), (2, .int (iI y))]) hx hb dMo_times_71 hl (by decide) rfl (fun ls hl => ?_)
    obtain ⟨tt, e_tt⟩ : ∃ z : Int, z = (mC x) + (mC y) := ⟨_, rfl⟩
    have hl : lv_has ls 5 [(4, .int (iI tt)), (3, .int (iI ((mC x) + (mC y)))), (0, .ref mo), (1, .int (iI x)), (2, .int (iI y))] := by rw [e_tt]; exact hl
    have htt : tt = min (xa.sc + yb.sc) (max kk (max xa.sc yb.sc)) := by omega
    refine lv_aload_n hx hb dMo_times_73 rfl (lv_at hl 2 rfl) ?_
    refine lv_iconst (v := iI 2) hx hb dMo_times_74 rfl ?_
    refine lv_iload_n hx hb dMo_times_75 rfl (lv_at hl 1 rfl) ?_
    refine lv_iload hx hb dMo_times_76 (lv_at hl 0 rfl) ?_
    refine iv_isub hx hb dMo_times_78 ?_
    refine cv_v (va_runV (C := "MacroReckonerModel") (As := [.int (iI 2), .int (iI (((mC x) + (mC y)) - tt))]) (rest := []) ⟨hx, hb, hml, hown, hts⟩ (cMo_cut l dC dI dA mo ft lf hg kk tx pn tk fm tO tl mI mT mS mC mL mB mF mU mX mP mK D1_18 Z1_18 2 (((mC x) + (mC y)) - tt) (ab (xa.v * yb.v)) (by omega) (by omega) (by exact hq18.1) H.size) (cwV 2 hts (gdV wt5_29 wt5_31 ws5_4 wt1_8 wt5_32) rfl rfl rfl ⟨rfl, by decide, by decide, by decide +kernel⟩ ⟨by decide, by decide⟩) (preV (q := ("MacroReckonerModel", TMo, 23)) hK hP hD hS hA XN_ok trivial [0, 1, 2, 3, 4, 5, 6, 7, 8, 9, 10, 11, 12, 13] rfl rfl 0 rfl rfl) rfl rfl hl.1 rfl (lv_room (Nat.le_of_ble_eq_true rfl)) dMo_times_79 ⟨Nat.zero_le _, Nat.zero_le _⟩) hP hD hS hA [0, 1, 2, 3, 4, 5, 6, 7, 8, 9, 10, 11, 12, 13] [] rfl (fun v_ => wMo dA mo ft lf hg kk tx pn tk fm tO tl mI mT mS mC mL mB mF mU mX mP mK v_.1 v_.2 []) (fun _ => rfl) ([] : va_W) rfl (fun _ => rfl) [mo, mo + 1, mo + 2, mo + 3, mo + 4, mo + 5, mo + 6, mo + 7, mo + 8, mo + 9, mo + 10, mo + 11, mo + 12, mo + 13] rfl (fun _ => rfl) (fun _ => rfl) (fun u_ H locs hq79 hP hD hS => ?_)
    obtain ⟨D1_79, Z1_79⟩ := u_
    have hP : va_P (dC, dI) vwCl (wMo dA mo ft lf hg kk tx pn tk fm tO tl mI mT mS mC mL mB mF mU mX mP mK D1_79 Z1_79 []) H := hP
    have hD : va_D A (wMo dA mo ft lf hg kk tx pn tk fm tO tl mI mT mS mC mL mB mF mU mX mP mK D1_79 Z1_79 []) := hD
    have hq79 : MR D1_79 Z1_79 2 ((ab (xa.v * yb.v)) / PW 10 (((mC x) + (mC y)) - tt)) ∧ others D1_18 Z1_18 D1_79 Z1_79 2 := hq79
    rw [hCx, hCy, htt] at hq79
    refine lv_aload_n hx hb dMo_times_82 rfl (lv_at hl 2 rfl) ?_
    refine lv_iconst (v := iI 2) hx hb dMo_times_83 rfl ?_
    refine lv_aload_n hx hb dMo_times_84 rfl (lv_at hl 2 rfl) ?_
    refine va_get (D := (dC, dI)) (ci := 7) (v := .ref (mo + 3)) (C := "MacroReckonerModel") (T := TMo) (N := 23) hx hb hts inMo hown hK hP 0 rfl rfl 4 (by decide) (hts _ wt4_62) (fun _ h9 => h9) rfl dMo_times_85 ?_
    refine lv_iload_n hx hb dMo_times_88 rfl (lv_at hl 3 rfl) ?_
    refine iv_iald hx hb hK hP 3 0 rfl rfl (by decide) dMo_times_89 (by omega) (by omega) ?_
    refine lv_aload_n hx hb dMo_times_90 rfl (lv_at hl 2 rfl) ?_
    refine va_get (D := (dC, dI)) (ci := 7) (v := .ref (mo + 3)) (C := "MacroReckonerModel") (T := TMo) (N := 23) hx hb hts inMo hown hK hP 0 rfl rfl 4 (by decide) (hts _ wt4_62) (fun _ h9 => h9) rfl dMo_times_91 ?_
    refine lv_iload_n hx hb dMo_times_94 rfl (lv_at hl 4 rfl) ?_
    refine iv_iald hx hb hK hP 3 0 rfl rfl (by decide) dMo_times_95 (by omega) (by omega) ?_
    refine iv_imul hx hb dMo_times_96 ?_
    refine lv_iload hx hb dMo_times_97 (lv_at hl 0 rfl) ?_
    refine cv_i (va_runV (C := "MacroReckonerModel") (As := [.int (iI 2), .int (iI ((mS x) * (mS y))), .int (iI tt)]) (rest := []) ⟨hx, hb, hml, hown, hts⟩ (cMo_make l dC dI dA mo ft lf hg kk tx pn tk fm tO tl mI mT mS mC mL mB mF mU mX mP mK D1_79 Z1_79 2 ((mS x) * (mS y)) tt (ab (xa.v * yb.v) / PW 10 (xa.sc + yb.sc - min (xa.sc + yb.sc) (max kk (max xa.sc yb.sc)))) (tq (xa.v * yb.v) (PW 10 (xa.sc + yb.sc - min (xa.sc + yb.sc) (max kk (max xa.sc yb.sc))))) (by omega) (by exact hq79.1) (by exact (tq_e (sgs_mul hSx hSy).1).2) (by omega) (by exact (tq_e (sgs_mul hSx hSy).1).1) H.size) (cwV 3 hts (gdV wt4_195 wt4_197 ws4_3 wt1_8 wt4_198) rfl rfl rfl ⟨rfl, by decide, by decide, by decide +kernel⟩ ⟨by decide, by decide⟩) (preV (q := ("MacroReckonerModel", TMo, 23)) hK hP hD hS hA XN_ok trivial [0, 1, 2, 3, 4, 5, 6, 7, 8, 9, 10, 11, 12, 13] rfl rfl 0 rfl rfl) rfl rfl hl.1 rfl (lv_room (Nat.le_of_ble_eq_true rfl)) dMo_times_99 ⟨Nat.zero_le _, Nat.zero_le _⟩) hP hD hS hA [0, 1, 2, 3, 4, 5, 6, 7, 8, 9, 10, 11, 12, 13] [] rfl (fun v_ => wMo dA mo ft lf hg kk tx pn tk fm tO tl mI v_.1 v_.2.1 v_.2.2.1 v_.2.2.2.1 v_.2.2.2.2 mF mU mX mP mK D1_79 Z1_79 []) (fun _ => rfl) ([] : va_W) rfl (fun _ => rfl) [mo, mo + 1, mo + 2, mo + 3, mo + 4, mo + 5, mo + 6, mo + 7, mo + 8, mo + 9, mo + 10, mo + 11, mo + 12, mo + 13] rfl (fun _ => rfl) (fun _ => rfl) (fun r99 u_ H locs hq99 hP hD hS => ?_)
    obtain ⟨T1_99, S1_99, C1_99, L1_99, B1_99⟩ := u_
    have hP : va_P (dC, dI) vwCl (wMo dA mo ft lf hg kk tx pn tk fm tO tl mI T1_99 S1_99 C1_99 L1_99 B1_99 mF mU mX mP mK D1_79 Z1_79 []) H := hP
    have hD : va_D A (wMo dA mo ft lf hg kk tx pn tk fm tO tl mI T1_99 S1_99 C1_99 L1_99 B1_99 mF mU mX mP mK D1_79 Z1_79 []) := hD
    have hq99 : mres r99 (tq (xa.v * yb.v) (PW 10 (xa.sc + yb.sc - min (xa.sc + yb.sc) (max kk (max xa.sc yb.sc))))) tt T1_99 S1_99 C1_99 L1_99 B1_99 ∧ thO mT mS mC mL mB T1_99 S1_99 C1_99 L1_99 B1_99 46 := hq99
    exact rt_i hx hb hr hlocks hK hS dMo_times_102 (T1_99, S1_99, C1_99, L1_99, B1_99, D1_79, Z1_79) hP hD (show mres r99 (tq (xa.v * yb.v) (PW 10 (xa.sc + yb.sc - min (xa.sc + yb.sc) (max kk (max xa.sc yb.sc))))) (min (xa.sc + yb.sc) (max kk (max xa.sc yb.sc))) T1_99 S1_99 C1_99 L1_99 B1_99 ∧ thO mT mS mC mL mB T1_99 S1_99 C1_99 L1_99 B1_99 46 from by rw [htt] at hq99; exact hq99)
  · refine lv_iload hx hb dMo_times_65 (lv_at hl 0 rfl) ?_
    refine lv_goto (tgt := 71) hx hb dMo_times_67 (by decide) ?_
    refine lv_istore (lv' := [(4, .int (iI t9)), (3, .int (iI ((mC x) + (mC y)))), (0, .ref mo), (1, .int (iI x)), (2, .int (iI y))]) hx hb dMo_times_71 hl (by decide) rfl (fun ls hl => ?_)
    obtain ⟨tt, e_tt⟩ : ∃ z : Int, z = t9 := ⟨_, rfl⟩
    have hl : lv_has ls 5 [(4, .int (iI tt)), (3, .int (iI ((mC x) + (mC y)))), (0, .ref mo), (1, .int (iI x)), (2, .int (iI y))] := by rw [e_tt]; exact hl
    have htt : tt = min (xa.sc + yb.sc) (max kk (max xa.sc yb.sc)) := by omega
    refine lv_aload_n hx hb dMo_times_73 rfl (lv_at hl 2 rfl) ?_
    refine lv_iconst (v := iI 2) hx hb dMo_times_74 rfl ?_
    refine lv_iload_n hx hb dMo_times_75 rfl (lv_at hl 1 rfl) ?_
    refine lv_iload hx hb dMo_times_76 (lv_at hl 0 rfl) ?_
    refine iv_isub hx hb dMo_times_78 ?_
    refine cv_v (va_runV (C := "MacroReckonerModel") (As := [.int (iI 2), .int (iI (((mC x) + (mC y)) - tt))]) (rest := []) ⟨hx, hb, hml, hown, hts⟩ (cMo_cut l dC dI dA mo ft lf hg kk tx pn tk fm tO tl mI mT mS mC mL mB mF mU mX mP mK D1_18 Z1_18 2 (((mC x) + (mC y)) - tt) (ab (xa.v * yb.v)) (by omega) (by omega) (by exact hq18.1) H.size) (cwV 2 hts (gdV wt5_29 wt5_31 ws5_4 wt1_8 wt5_32) rfl rfl rfl ⟨rfl, by decide, by decide, by decide +kernel⟩ ⟨by decide, by decide⟩) (preV (q := ("MacroReckonerModel", TMo, 23)) hK hP hD hS hA XN_ok trivial [0, 1, 2, 3, 4, 5, 6, 7, 8, 9, 10, 11, 12, 13] rfl rfl 0 rfl rfl) rfl rfl hl.1 rfl (lv_room (Nat.le_of_ble_eq_true rfl)) dMo_times_79 ⟨Nat.zero_le _, Nat.zero_le _⟩) hP hD hS hA [0, 1, 2, 3, 4, 5, 6, 7, 8, 9, 10, 11, 12, 13] [] rfl (fun v_ => wMo dA mo ft lf hg kk tx pn tk fm tO tl mI mT mS mC mL mB mF mU mX mP mK v_.1 v_.2 []) (fun _ => rfl) ([] : va_W) rfl (fun _ => rfl) [mo, mo + 1, mo + 2, mo + 3, mo + 4, mo + 5, mo + 6, mo + 7, mo + 8, mo + 9, mo + 10, mo + 11, mo + 12, mo + 13] rfl (fun _ => rfl) (fun _ => rfl) (fun u_ H locs hq79 hP hD hS => ?_)
    obtain ⟨D1_79, Z1_79⟩ := u_
    have hP : va_P (dC, dI) vwCl (wMo dA mo ft lf hg kk tx pn tk fm tO tl mI mT mS mC mL mB mF mU mX mP mK D1_79 Z1_79 []) H := hP
    have hD : va_D A (wMo dA mo ft lf hg kk tx pn tk fm tO tl mI mT mS mC mL mB mF mU mX mP mK D1_79 Z1_79 []) := hD
    have hq79 : MR D1_79 Z1_79 2 ((ab (xa.v * yb.v)) / PW 10 (((mC x) + (mC y)) - tt)) ∧ others D1_18 Z1_18 D1_79 Z1_79 2 := hq79
    rw [hCx, hCy, htt] at hq79
    refine lv_aload_n hx hb dMo_times_82 rfl (lv_at hl 2 rfl) ?_
    refine lv_iconst (v := iI 2) hx hb dMo_times_83 rfl ?_
    refine lv_aload_n hx hb dMo_times_84 rfl (lv_at hl 2 rfl) ?_
    refine va_get (D := (dC, dI)) (ci := 7) (v := .ref (mo + 3)) (C := "MacroReckonerModel") (T := TMo) (N := 23) hx hb hts inMo hown hK hP 0 rfl rfl 4 (by decide) (hts _ wt4_62) (fun _ h9 => h9) rfl dMo_times_85 ?_
    refine lv_iload_n hx hb dMo_times_88 rfl (lv_at hl 3 rfl) ?_
    refine iv_iald hx hb hK hP 3 0 rfl rfl (by decide) dMo_times_89 (by omega) (by omega) ?_
    refine lv_aload_n hx hb dMo_times_90 rfl (lv_at hl 2 rfl) ?_
    refine va_get (D := (dC, dI)) (ci := 7) (v := .ref (mo + 3)) (C := "MacroReckonerModel") (T := TMo) (N := 23) hx hb hts inMo hown hK hP 0 rfl rfl 4 (by decide) (hts _ wt4_62) (fun _ h9 => h9) rfl dMo_times_91 ?_
    refine lv_iload_n hx hb dMo_times_94 rfl (lv_at hl 4 rfl) ?_
    refine iv_iald hx hb hK hP 3 0 rfl rfl (by decide) dMo_times_95 (by omega) (by omega) ?_
    refine iv_imul hx hb dMo_times_96 ?_
    refine lv_iload hx hb dMo_times_97 (lv_at hl 0 rfl) ?_
    refine cv_i (va_runV (C := "MacroReckonerModel") (As := [.int (iI 2), .int (iI ((mS x) * (mS y))), .int (iI tt)]) (rest := []) ⟨hx, hb, hml, hown, hts⟩ (cMo_make l dC dI dA mo ft lf hg kk tx pn tk fm tO tl mI mT mS mC mL mB mF mU mX mP mK D1_79 Z1_79 2 ((mS x) * (mS y)) tt (ab (xa.v * yb.v) / PW 10 (xa.sc + yb.sc - min (xa.sc + yb.sc) (max kk (max xa.sc yb.sc)))) (tq (xa.v * yb.v) (PW 10 (xa.sc + yb.sc - min (xa.sc + yb.sc) (max kk (max xa.sc yb.sc))))) (by omega) (by exact hq79.1) (by exact (tq_e (sgs_mul hSx hSy).1).2) (by omega) (by exact (tq_e (sgs_mul hSx hSy).1).1) H.size) (cwV 3 hts (gdV wt4_195 wt4_197 ws4_3 wt1_8 wt4_198) rfl rfl rfl ⟨rfl, by decide, by decide, by decide +kernel⟩ ⟨by decide, by decide⟩) (preV (q := ("MacroReckonerModel", TMo, 23)) hK hP hD hS hA XN_ok trivial [0, 1, 2, 3, 4, 5, 6, 7, 8, 9, 10, 11, 12, 13] rfl rfl 0 rfl rfl) rfl rfl hl.1 rfl (lv_room (Nat.le_of_ble_eq_true rfl)) dMo_times_99 ⟨Nat.zero_le _, Nat.zero_le _⟩) hP hD hS hA [0, 1, 2, 3, 4, 5, 6, 7, 8, 9, 10, 11, 12, 13] [] rfl (fun v_ => wMo dA mo ft lf hg kk tx pn tk fm tO tl mI v_.1 v_.2.1 v_.2.2.1 v_.2.2.2.1 v_.2.2.2.2 mF mU mX mP mK D1_79 Z1_79 []) (fun _ => rfl) ([] : va_W) rfl (fun _ => rfl) [mo, mo + 1, mo + 2, mo + 3, mo + 4, mo + 5, mo + 6, mo + 7, mo + 8, mo + 9, mo + 10, mo + 11, mo + 12, mo + 13] rfl (fun _ => rfl) (fun _ => rfl) (fun r99 u_ H locs hq99 hP hD hS => ?_)
    obtain ⟨T1_99, S1_99, C1_99, L1_99, B1_99⟩ := u_
    have hP : va_P (dC, dI) vwCl (wMo dA mo ft lf hg kk tx pn tk fm tO tl mI T1_99 S1_99 C1_99 L1_99 B1_99 mF mU mX mP mK D1_79 Z1_79 []) H := hP
    have hD : va_D A (wMo dA mo ft lf hg kk tx pn tk fm tO tl mI T1_99 S1_99 C1_99 L1_99 B1_99 mF mU mX mP mK D1_79 Z1_79 []) := hD
    have hq99 : mres r99 (tq (xa.v * yb.v) (PW 10 (xa.sc + yb.sc - min (xa.sc + yb.sc) (max kk (max xa.sc yb.sc))))) tt T1_99 S1_99 C1_99 L1_99 B1_99 ∧ thO mT mS mC mL mB T1_99 S1_99 C1_99 L1_99 B1_99 46 := hq99
    exact rt_i hx hb hr hlocks hK hS dMo_times_102 (T1_99, S1_99, C1_99, L1_99, B1_99, D1_79, Z1_79) hP hD (show mres r99 (tq (xa.v * yb.v) (PW 10 (xa.sc + yb.sc - min (xa.sc + yb.sc) (max kk (max xa.sc yb.sc))))) (min (xa.sc + yb.sc) (max kk (max xa.sc yb.sc))) T1_99 S1_99 C1_99 L1_99 B1_99 ∧ thO mT mS mC mL mB T1_99 S1_99 C1_99 L1_99 B1_99 46 from by rw [htt] at hq99; exact hq99)

theorem dMo_quotient_0 : decode prog_9_method_22_code 0 = .ok (.aload_n 0, 1) := by decide +kernel
theorem dMo_quotient_1 : decode prog_9_method_22_code 1 = .ok (.getfield 17, 3) := by decide +kernel
theorem dMo_quotient_4 : decode prog_9_method_22_code 4 = .ok (.iload_n 2, 1) := by decide +kernel
theorem dMo_quotient_5 : decode prog_9_method_22_code 5 = .ok (.iaload, 1) := by decide +kernel
theorem dMo_quotient_6 : decode prog_9_method_22_code 6 = .ok (.ifCond .ne 6, 3) := by decide +kernel
theorem dMo_quotient_9 : decode prog_9_method_22_code 9 = .ok (.bipush (-5), 2) := by decide +kernel
theorem dMo_quotient_11 : decode prog_9_method_22_code 11 = .ok (.ireturn, 1) := by decide +kernel
theorem dMo_quotient_12 : decode prog_9_method_22_code 12 = .ok (.aload_n 0, 1) := by decide +kernel
theorem dMo_quotient_13 : decode prog_9_method_22_code 13 = .ok (.iconst 0, 1) := by decide +kernel
theorem dMo_quotient_14 : decode prog_9_method_22_code 14 = .ok (.iload_n 1, 1) := by decide +kernel
theorem dMo_quotient_15 : decode prog_9_method_22_code 15 = .ok (.aload_n 0, 1) := by decide +kernel
theorem dMo_quotient_16 : decode prog_9_method_22_code 16 = .ok (.getfield 20, 3) := by decide +kernel
theorem dMo_quotient_19 : decode prog_9_method_22_code 19 = .ok (.iload_n 2, 1) := by decide +kernel
theorem dMo_quotient_20 : decode prog_9_method_22_code 20 = .ok (.iaload, 1) := by decide +kernel
theorem dMo_quotient_21 : decode prog_9_method_22_code 21 = .ok (.aload_n 0, 1) := by decide +kernel
theorem dMo_quotient_22 : decode prog_9_method_22_code 22 = .ok (.getfield 98, 3) := by decide +kernel
theorem dMo_quotient_25 : decode prog_9_method_22_code 25 = .ok (.iadd, 1) := by decide +kernel
theorem dMo_quotient_26 : decode prog_9_method_22_code 26 = .ok (.invokevirtual 92, 3) := by decide +kernel
theorem dMo_quotient_29 : decode prog_9_method_22_code 29 = .ok (.aload_n 0, 1) := by decide +kernel
theorem dMo_quotient_30 : decode prog_9_method_22_code 30 = .ok (.iconst 1, 1) := by decide +kernel
theorem dMo_quotient_31 : decode prog_9_method_22_code 31 = .ok (.iload_n 2, 1) := by decide +kernel
theorem dMo_quotient_32 : decode prog_9_method_22_code 32 = .ok (.aload_n 0, 1) := by decide +kernel
theorem dMo_quotient_33 : decode prog_9_method_22_code 33 = .ok (.getfield 20, 3) := by decide +kernel
theorem dMo_quotient_36 : decode prog_9_method_22_code 36 = .ok (.iload_n 1, 1) := by decide +kernel
theorem dMo_quotient_37 : decode prog_9_method_22_code 37 = .ok (.iaload, 1) := by decide +kernel
theorem dMo_quotient_38 : decode prog_9_method_22_code 38 = .ok (.invokevirtual 92, 3) := by decide +kernel
theorem dMo_quotient_41 : decode prog_9_method_22_code 41 = .ok (.aload_n 0, 1) := by decide +kernel
theorem dMo_quotient_42 : decode prog_9_method_22_code 42 = .ok (.invokevirtual 104, 3) := by decide +kernel
theorem dMo_quotient_45 : decode prog_9_method_22_code 45 = .ok (.aload_n 0, 1) := by decide +kernel
theorem dMo_quotient_46 : decode prog_9_method_22_code 46 = .ok (.iconst 2, 1) := by decide +kernel
theorem dMo_quotient_47 : decode prog_9_method_22_code 47 = .ok (.aload_n 0, 1) := by decide +kernel
theorem dMo_quotient_48 : decode prog_9_method_22_code 48 = .ok (.getfield 17, 3) := by decide +kernel
theorem dMo_quotient_51 : decode prog_9_method_22_code 51 = .ok (.iload_n 1, 1) := by decide +kernel
theorem dMo_quotient_52 : decode prog_9_method_22_code 52 = .ok (.iaload, 1) := by decide +kernel
theorem dMo_quotient_53 : decode prog_9_method_22_code 53 = .ok (.aload_n 0, 1) := by decide +kernel
theorem dMo_quotient_54 : decode prog_9_method_22_code 54 = .ok (.getfield 17, 3) := by decide +kernel
theorem dMo_quotient_57 : decode prog_9_method_22_code 57 = .ok (.iload_n 2, 1) := by decide +kernel
theorem dMo_quotient_58 : decode prog_9_method_22_code 58 = .ok (.iaload, 1) := by decide +kernel
theorem dMo_quotient_59 : decode prog_9_method_22_code 59 = .ok (.imul, 1) := by decide +kernel
theorem dMo_quotient_60 : decode prog_9_method_22_code 60 = .ok (.aload_n 0, 1) := by decide +kernel
theorem dMo_quotient_61 : decode prog_9_method_22_code 61 = .ok (.getfield 98, 3) := by decide +kernel
theorem dMo_quotient_64 : decode prog_9_method_22_code 64 = .ok (.invokevirtual 79, 3) := by decide +kernel
theorem dMo_quotient_67 : decode prog_9_method_22_code 67 = .ok (.ireturn, 1) := by decide +kernel
abbrev qMo_quotient (dC : Nat → ClassId) (dI : Nat → Nat → Nat) (dA : Nat → ClassId) (mo : Nat) (ft : Int) (lf : Int) (hg : Int) (kk : Int) (tx : Int) (pn : Int) (tk : Int) (fm : Int) (tO : Int) (tl : Int) (mI : Int → Int) (mT : Int → Int) (mS : Int → Int) (mC : Int → Int) (mL : Int → Int) (mB : Int → Int) (mF : Int → Int) (mU : Int → Int) (mX : Int → Int) (mP : Int → Int) (mK : Int → Int) (mD : Int → Int) (mZ : Int → Int) (x : Int) (y : Int) (xa : Th) (yb : Th) (A : Nat → Prop) : Array Value → State → Outcome → State → Prop := QI (dC, dI) vwCl (tyA dA) (fun (r : Int) (v_ : (Int → Int) × (Int → Int) × (Int → Int) × (Int → Int) × (Int → Int) × (Int → Int) × (Int → Int)) => ((yb.v = 0 ∧ r = -5) ∨ (yb.v ≠ 0 ∧ mres r (szn (xa.v * yb.v) (ab xa.v * PW 10 (max xa.sc (kk + yb.sc) - xa.sc) / (ab yb.v * PW 10 (max xa.sc (kk + yb.sc) - (kk + yb.sc))))) kk v_.1 v_.2.1 v_.2.2.1 v_.2.2.2.1 v_.2.2.2.2.1)) ∧ thO mT mS mC mL mB v_.1 v_.2.1 v_.2.2.1 v_.2.2.2.1 v_.2.2.2.2.1 46) (fun (v_ : (Int → Int) × (Int → Int) × (Int → Int) × (Int → Int) × (Int → Int) × (Int → Int) × (Int → Int)) => wMo dA mo ft lf hg kk tx pn tk fm tO tl mI v_.1 v_.2.1 v_.2.2.1 v_.2.2.2.1 v_.2.2.2.2.1 mF mU mX mP mK v_.2.2.2.2.2.1 v_.2.2.2.2.2.2 []) A
abbrev rmMo_quotient : Room := { frames := 3, cells := 0, slots := 0, locals := 68 }
set_option maxRecDepth 100000 in
set_option maxHeartbeats 1000000 in
theorem cMo_quotient (l : Launch) (dC : Nat → ClassId) (dI : Nat → Nat → Nat) (dA : Nat → ClassId) (mo : Nat) (ft : Int) (lf : Int) (hg : Int) (kk : Int) (tx : Int) (pn : Int) (tk : Int) (fm : Int) (tO : Int) (tl : Int) (mI : Int → Int) (mT : Int → Int) (mS : Int → Int) (mC : Int → Int) (mL : Int → Int) (mB : Int → Int) (mF : Int → Int) (mU : Int → Int) (mX : Int → Int) (mP : Int → Int) (mK : Int → Int) (mD : Int → Int) (mZ : Int → Int) (x : Int) (y : Int) (xa : Th) (yb : Th) (hxy : 0 ≤ x ∧ x ≤ 46 ∧ 0 ≤ y ∧ y ≤ 46) (hTa : MT mT mS mC mL mB x xa) (hta : xa.t = 0) (hTb : MT mT mS mC mL mB y yb) (htb : yb.t = 0) (hkk : 0 ≤ kk ∧ kk ≤ 40) (sz : Nat) : Met l yMo_quotient wsMo_quotient rmMo_quotient (PC (dC, dI) vwCl (tyA dA) XN [.ref mo, .int (iI x), .int (iI y)] (wMo dA mo ft lf hg kk tx pn tk fm tO tl mI mT mS mC mL mB mF mU mX mP mK mD mZ []) sz) (qMo_quotient dC dI dA mo ft lf hg kk tx pn tk fm tO tl mI mT mS mC mL mB mF mU mX mP mK mD mZ x y xa yb (va_A (wMo dA mo ft lf hg kk tx pn tk fm tO tl mI mT mS mC mL mB mF mU mX mP mK mD mZ []) sz)) 0 0 (va_A (wMo dA mo ft lf hg kk tx pn tk fm tO tl mI mT mS mC mL mB mF mU mX mP mK mD mZ []) sz) := by
  refine met_of (cc := prog_9_method_22_code) (maxL := 3) (ret := (some .int)) (Qc := qMo_quotient dC dI dA mo ft lf hg kk tx pn tk fm tO tl mI mT mS mC mL mB mF mU mX mP mK mD mZ x y xa yb) XN_ok (by decide) rfl (Nat.le_of_ble_eq_true rfl) ?_
  intro p e s m below meth c ls A hx hb hr hml hown hts hlocks hnm hK hP hD hA hX hS hl
  have hl : lv_has ls 3 [(0, .ref mo), (1, .int (iI x)), (2, .int (iI y))] := hl
  have hown : s.vm.findClass "MacroReckonerModel" = some m.cls := hown
  obtain ⟨H, hH⟩ : ∃ H : Heap, H = s.heap := ⟨_, rfl⟩
  obtain ⟨locs, hlo⟩ : ∃ L : List Loc, L = [] := ⟨_, rfl⟩
  have hP : va_P (dC, dI) vwCl (wMo dA mo ft lf hg kk tx pn tk fm tO tl mI mT mS mC mL mB mF mU mX mP mK mD mZ []) H := hH ▸ hP
  have hS : va_S A s.heap H locs := by rw [hH, hlo]; exact hS
  suffices hgo : W p l e rmMo_quotient s m [.ref mo, .int (iI x), .int (iI y)].toArray below meth c H locs 0 0 (MQ below (qMo_quotient dC dI dA mo ft lf hg kk tx pn tk fm tO tl mI mT mS mC mL mB mF mU mX mP mK mD mZ x y xa yb A) [.ref mo, .int (iI x), .int (iI y)].toArray s 0 0 A) (F0 m 0 ls []) by rw [hH, hlo] at hgo; exact hgo
  clear hH hlo
  obtain ⟨hCx, hscx, hTx, hSx⟩ := MT_n hTa hta
  have hbx := TD_bd hTx
  have hlx := (MT_b hTa).2.2.2.2
  obtain ⟨hCy, hscy, hTy, hSy⟩ := MT_n hTb htb
  have hby := TD_bd hTy
  have hly := (MT_b hTb).2.2.2.2
  refine lv_aload_n hx hb dMo_quotient_0 rfl (lv_at hl 0 rfl) ?_
  refine va_get (D := (dC, dI)) (ci := 7) (v := .ref (mo + 3)) (C := "MacroReckonerModel") (T := TMo) (N := 23) hx hb hts inMo hown hK hP 0 rfl rfl 4 (by decide) (hts _ wt4_62) (fun _ h9 => h9) rfl dMo_quotient_1 ?_
  refine lv_iload_n hx hb dMo_quotient_4 rfl (lv_at hl 2 rfl) ?_
  refine iv_iald hx hb hK hP 3 0 rfl rfl (by decide) dMo_quotient_5 (by omega) (by omega) ?_
  refine iv_if_ne (tgt := 12) hx hb dMo_quotient_6 (by decide) ⟨by omega, by omega⟩ (fun hc6 => ?_) (fun hc6 => ?_)
  · have hyp : yb.v ≠ 0 ∧ 0 < ab yb.v := by unfold sgs at hSy; unfold ab; omega
    have hX0 := Int.mul_nonneg (ab_nn (x := xa.v)) (Int.le_of_lt (PW_pos (b := 10) (by decide) (max xa.sc (kk + yb.sc) - xa.sc)))
    refine lv_aload_n hx hb dMo_quotient_12 rfl (lv_at hl 0 rfl) ?_
    refine lv_iconst (v := iI 0) hx hb dMo_quotient_13 rfl ?_
    refine lv_iload_n hx hb dMo_quotient_14 rfl (lv_at hl 1 rfl) ?_
    refine lv_aload_n hx hb dMo_quotient_15 rfl (lv_at hl 0 rfl) ?_
    refine va_get (D := (dC, dI)) (ci := 7) (v := .ref (mo + 4)) (C := "MacroReckonerModel") (T := TMo) (N := 23) hx hb hts inMo hown hK hP 0 rfl rfl 5 (by decide) (hts _ wt4_63) (fun _ h9 => h9) rfl dMo_quotient_16 ?_
    refine lv_iload_n hx hb dMo_quotient_19 rfl (lv_at hl 2 rfl) ?_
    refine iv_iald hx hb hK hP 4 0 rfl rfl (by decide) dMo_quotient_20 (by omega) (by omega) ?_
    refine lv_aload_n hx hb dMo_quotient_21 rfl (lv_at hl 0 rfl) ?_
    refine va_get (D := (dC, dI)) (ci := 7) (v := .int (iI kk)) (C := "MacroReckonerModel") (T := TMo) (N := 23) hx hb hts inMo hown hK hP 0 rfl rfl 9 (by decide) (hts _ wt4_67) (fun _ h9 => h9) rfl dMo_quotient_22 ?_
    refine iv_iadd hx hb dMo_quotient_25 ?_
    refine cv_v (va_runV (C := "MacroReckonerModel") (As := [.int (iI 0), .int (iI x), .int (iI ((mC y) + kk))]) (rest := []) ⟨hx, hb, hml, hown, hts⟩ (cMo_load l dC dI dA mo ft lf hg kk tx pn tk fm tO tl mI mT mS mC mL mB mF mU mX mP mK mD mZ 0 x ((mC y) + kk) (ab xa.v) (by omega) (by omega) (by exact hTx) H.size) (cwV 3 hts (gdV wt4_226 wt4_228 ws4_10 wt1_8 wt4_229) rfl rfl rfl ⟨rfl, by decide, by decide, by decide +kernel⟩ ⟨by decide, by decide⟩) (preV (q := ("MacroReckonerModel", TMo, 23)) hK hP hD hS hA XN_ok trivial [0, 1, 2, 3, 4, 5, 6, 7, 8, 9, 10, 11, 12, 13] rfl rfl 0 rfl rfl) rfl rfl hl.1 rfl (lv_room (Nat.le_of_ble_eq_true rfl)) dMo_quotient_26 ⟨Nat.zero_le _, Nat.zero_le _⟩) hP hD hS hA [0, 1, 2, 3, 4, 5, 6, 7, 8, 9, 10, 11, 12, 13] [] rfl (fun v_ => wMo dA mo ft lf hg kk tx pn tk fm tO tl mI mT mS mC mL mB mF mU mX mP mK v_.1 v_.2 []) (fun _ => rfl) ([] : va_W) rfl (fun _ => rfl) [mo, mo + 1, mo + 2, mo + 3, mo + 4, mo + 5, mo + 6, mo + 7, mo + 8, mo + 9, mo + 10, mo + 11, mo + 12, mo + 13] rfl (fun _ => rfl) (fun _ => rfl) (fun u_ H locs hq26 hP hD hS => ?_)
    obtain ⟨D1_26, Z1_26⟩ := u_
    have hP : va_P (dC, dI) vwCl (wMo dA mo ft lf hg kk tx pn tk fm tO tl mI mT mS mC mL mB mF mU mX mP mK D1_26 Z1_26 []) H := hP
    have hD : va_D A (wMo dA mo ft lf hg kk tx pn tk fm tO tl mI mT mS mC mL mB mF mU mX mP mK D1_26 Z1_26 []) := hD
    have hq26 : MR D1_26 Z1_26 0 ((ab xa.v) * PW 10 ((mC y) + kk)) ∧ others mD mZ D1_26 Z1_26 0 := hq26
    rw [hCy] at hq26
    refine lv_aload_n hx hb dMo_quotient_29 rfl (lv_at hl 0 rfl) ?_
    refine lv_iconst (v := iI 1) hx hb dMo_quotient_30 rfl ?_
    refine lv_iload_n hx hb dMo_quotient_31 rfl (lv_at hl 2 rfl) ?_
    refine lv_aload_n hx hb dMo_quotient_32 rfl (lv_at hl 0 rfl) ?_
    refine va_get (D := (dC, dI)) (ci := 7) (v := .ref (mo + 4)) (C := "MacroReckonerModel") (T := TMo) (N := 23) hx hb hts inMo hown hK hP 0 rfl rfl 5 (by decide) (hts _ wt4_63) (fun _ h9 => h9) rfl dMo_quotient_33 ?_
    refine lv_iload_n hx hb dMo_quotient_36 rfl (lv_at hl 1 rfl) ?_
    refine iv_iald hx hb hK hP 4 0 rfl rfl (by decide) dMo_quotient_37 (by omega) (by omega) ?_
    refine cv_v (va_runV (C := "MacroReckonerModel") (As := [.int (iI 1), .int (iI y), .int (iI (mC x))]) (rest := []) ⟨hx, hb, hml, hown, hts⟩ (cMo_load l dC dI dA mo ft lf hg kk tx pn tk fm tO tl mI mT mS mC mL mB mF mU mX mP mK D1_26 Z1_26 1 y (mC x) (ab yb.v) (by omega) (by omega) (by exact hTy) H.size) (cwV 3 hts (gdV wt4_226 wt4_228 ws4_10 wt1_8 wt4_229) rfl rfl rfl ⟨rfl, by decide, by decide, by decide +kernel⟩ ⟨by decide, by decide⟩) (preV (q := ("MacroReckonerModel", TMo, 23)) hK hP hD hS hA XN_ok trivial [0, 1, 2, 3, 4, 5, 6, 7, 8, 9, 10, 11, 12, 13] rfl rfl 0 rfl rfl) rfl rfl hl.1 rfl (lv_room (Nat.le_of_ble_eq_true rfl)) dMo_quotient_38 ⟨Nat.zero_le _, Nat.zero_le _⟩) hP hD hS hA [0, 1, 2, 3, 4, 5, 6, 7, 8, 9, 10, 11, 12, 13] [] rfl (fun v_ => wMo dA mo ft lf hg kk tx pn tk fm tO tl mI mT mS mC mL mB mF mU mX mP mK v_.1 v_.2 []) (fun _ => rfl) ([] : va_W) rfl (fun _ => rfl) [mo, mo + 1, mo + 2, mo + 3, mo + 4, mo + 5, mo + 6, mo + 7, mo + 8, mo + 9, mo + 10, mo + 11, mo + 12, mo + 13] rfl (fun _ => rfl) (fun _ => rfl) (fun u_ H locs hq38 hP hD hS => ?_)
    obtain ⟨D1_38, Z1_38⟩ := u_
    have hP : va_P (dC, dI) vwCl (wMo dA mo ft lf hg kk tx pn tk fm tO tl mI mT mS mC mL mB mF mU mX mP mK D1_38 Z1_38 []) H := hP
    have hD : va_D A (wMo dA mo ft lf hg kk tx pn tk fm tO tl mI mT mS mC mL mB mF mU mX mP mK D1_38 Z1_38 []) := hD
    have hq38 : MR D1_38 Z1_38 1 ((ab yb.v) * PW 10 (mC x)) ∧ others D1_26 Z1_26 D1_38 Z1_38 1 := hq38
    rw [hCx] at hq38
    have h0 := MR_o hq38.2 (by decide) hq26.1
    have hz1 := M_sz hq38.1 (w60 hby.1 hby.2 (show 0 ≤ xa.sc by omega) (by omega)).1 (by omega)
    refine lv_aload_n hx hb dMo_quotient_41 rfl (lv_at hl 0 rfl) ?_
    refine cv_v (va_runV (C := "MacroReckonerModel") (As := []) (rest := []) ⟨hx, hb, hml, hown, hts⟩ (cMo_divide l dC dI dA mo ft lf hg kk tx pn tk fm tO tl mI mT mS mC mL mB mF mU mX mP mK D1_38 Z1_38 (ab xa.v * PW 10 (yb.sc + kk)) (ab yb.v * PW 10 xa.sc) (by exact h0) (by exact hq38.1) (by exact m_pos hyp.2) (by omega) H.size) (cwV 0 hts (gdV wt5_37 wt5_39 ws5_6 wt1_8 wt5_40) rfl rfl rfl ⟨rfl, by decide, by decide, by decide +kernel⟩ ⟨by decide, by decide⟩) (preV (q := ("MacroReckonerModel", TMo, 23)) hK hP hD hS hA XN_ok trivial [0, 1, 2, 3, 4, 5, 6, 7, 8, 9, 10, 11, 12, 13] rfl rfl 0 rfl rfl) rfl rfl hl.1 rfl (lv_room (Nat.le_of_ble_eq_true rfl)) dMo_quotient_42 ⟨Nat.zero_le _, Nat.zero_le _⟩) hP hD hS hA [0, 1, 2, 3, 4, 5, 6, 7, 8, 9, 10, 11, 12, 13] [] rfl (fun v_ => wMo dA mo ft lf hg kk tx pn tk fm tO tl mI mT mS mC mL mB mF mU mX mP mK v_.1 v_.2 []) (fun _ => rfl) ([] : va_W) rfl (fun _ => rfl) [mo, mo + 1, mo + 2, mo + 3, mo + 4, mo + 5, mo + 6, mo + 7, mo + 8, mo + 9, mo + 10, mo + 11, mo + 12, mo + 13] rfl (fun _ => rfl) (fun _ => rfl) (fun u_ H locs hq42 hP hD hS => ?_)
    obtain ⟨D1_42, Z1_42⟩ := u_
    have hP : va_P (dC, dI) vwCl (wMo dA mo ft lf hg kk tx pn tk fm tO tl mI mT mS mC mL mB mF mU mX mP mK D1_42 Z1_42 []) H := hP
    have hD : va_D A (wMo dA mo ft lf hg kk tx pn tk fm tO tl mI mT mS mC mL mB mF mU mX mP mK D1_42 Z1_42 []) := hD
    have hq42 : MR D1_42 Z1_42 2 ((ab xa.v * PW 10 (yb.sc + kk)) / (ab yb.v * PW 10 xa.sc)) ∧ MR D1_42 Z1_42 3 ((ab xa.v * PW 10 (yb.sc + kk)) % (ab yb.v * PW 10 xa.sc)) ∧ (∀ p, p < 680 ∨ 1360 ≤ p → D1_42 p = D1_38 p) ∧ ∀ t, t ≠ 2 → t ≠ 3 → Z1_42 t = Z1_38 t := hq42
    have hqc := hq42.1
    rw [qr_2 (t := max xa.sc (kk + yb.sc)) rfl hscx.1 hscy.1 hkk.1] at hqc
    refine lv_aload_n hx hb dMo_quotient_45 rfl (lv_at hl 0 rfl) ?_
    refine lv_iconst (v := iI 2) hx hb dMo_quotient_46 rfl ?_
    refine lv_aload_n hx hb dMo_quotient_47 rfl (lv_at hl 0 rfl) ?_
    refine va_get (D := (dC, dI)) (ci := 7) (v := .ref (mo + 3)) (C := "MacroReckonerModel") (T := TMo) (N := 23) hx hb hts inMo hown hK hP 0 rfl rfl 4 (by decide) (hts _ wt4_62) (fun _ h9 => h9) rfl dMo_quotient_48 ?_
    refine lv_iload_n hx hb dMo_quotient_51 rfl (lv_at hl 1 rfl) ?_
    refine iv_iald hx hb hK hP 3 0 rfl rfl (by decide) dMo_quotient_52 (by omega) (by omega) ?_
    refine lv_aload_n hx hb dMo_quotient_53 rfl (lv_at hl 0 rfl) ?_
    refine va_get (D := (dC, dI)) (ci := 7) (v := .ref (mo + 3)) (C := "MacroReckonerModel") (T := TMo) (N := 23) hx hb hts inMo hown hK hP 0 rfl rfl 4 (by decide) (hts _ wt4_62) (fun _ h9 => h9) rfl dMo_quotient_54 ?_
    refine lv_iload_n hx hb dMo_quotient_57 rfl (lv_at hl 2 rfl) ?_
    refine iv_iald hx hb hK hP 3 0 rfl rfl (by decide) dMo_quotient_58 (by omega) (by omega) ?_
    refine iv_imul hx hb dMo_quotient_59 ?_
    refine lv_aload_n hx hb dMo_quotient_60 rfl (lv_at hl 0 rfl) ?_
    refine va_get (D := (dC, dI)) (ci := 7) (v := .int (iI kk)) (C := "MacroReckonerModel") (T := TMo) (N := 23) hx hb hts inMo hown hK hP 0 rfl rfl 9 (by decide) (hts _ wt4_67) (fun _ h9 => h9) rfl dMo_quotient_61 ?_
    refine cv_i (va_runV (C := "MacroReckonerModel") (As := [.int (iI 2), .int (iI ((mS x) * (mS y))), .int (iI kk)]) (rest := []) ⟨hx, hb, hml, hown, hts⟩ (cMo_make l dC dI dA mo ft lf hg kk tx pn tk fm tO tl mI mT mS mC mL mB mF mU mX mP mK D1_42 Z1_42 2 ((mS x) * (mS y)) kk (ab xa.v * PW 10 (max xa.sc (kk + yb.sc) - xa.sc) / (ab yb.v * PW 10 (max xa.sc (kk + yb.sc) - (kk + yb.sc)))) (szn (xa.v * yb.v) (ab xa.v * PW 10 (max xa.sc (kk + yb.sc) - xa.sc) / (ab yb.v * PW 10 (max xa.sc (kk + yb.sc) - (kk + yb.sc))))) (by omega) (by exact hqc) (by have hss := (sgs_mul hSx hSy).1; unfold sgs at hss; rcases hss with ⟨s1, s2⟩ | ⟨s1, s2⟩ | ⟨s1, s2⟩; exact Or.inr (Or.inr ⟨s1, by have h := (Int.mul_eq_zero.mp s2).resolve_right hyp.1; rw [h, show ab 0 = 0 from rfl, Int.zero_mul, Int.zero_ediv]⟩); exact Or.inl s1; exact Or.inr (Or.inl s1)) (by omega) (by exact sm_sz (sgs_mul hSx hSy).1) H.size) (cwV 3 hts (gdV wt4_195 wt4_197 ws4_3 wt1_8 wt4_198) rfl rfl rfl ⟨rfl, by decide, by decide, by decide +kernel⟩ ⟨by decide, by decide⟩) (preV (q := ("MacroReckonerModel", TMo, 23)) hK hP hD hS hA XN_ok trivial [0, 1, 2, 3, 4, 5, 6, 7, 8, 9, 10, 11, 12, 13] rfl rfl 0 rfl rfl) rfl rfl hl.1 rfl (lv_room (Nat.le_of_ble_eq_true rfl)) dMo_quotient_64 ⟨Nat.zero_le _, Nat.zero_le _⟩) hP hD hS hA [0, 1, 2, 3, 4, 5, 6, 7, 8, 9, 10, 11, 12, 13] [] rfl (fun v_ => wMo dA mo ft lf hg kk tx pn tk fm tO tl mI v_.1 v_.2.1 v_.2.2.1 v_.2.2.2.1 v_.2.2.2.2 mF mU mX mP mK D1_42 Z1_42 []) (fun _ => rfl) ([] : va_W) rfl (fun _ => rfl) [mo, mo + 1, mo + 2, mo + 3, mo + 4, mo + 5, mo + 6, mo + 7, mo + 8, mo + 9, mo + 10, mo + 11, mo + 12, mo + 13] rfl (fun _ => rfl) (fun _ => rfl) (fun r64 u_ H locs hq64 hP hD hS => ?_)
    obtain ⟨T1_64, S1_64, C1_64, L1_64, B1_64⟩ := u_
    have hP : va_P (dC, dI) vwCl (wMo dA mo ft lf hg kk tx pn tk fm tO tl mI T1_64 S1_64 C1_64 L1_64 B1_64 mF mU mX mP mK D1_42 Z1_42 []) H := hP
    have hD : va_D A (wMo dA mo ft lf hg kk tx pn tk fm tO tl mI T1_64 S1_64 C1_64 L1_64 B1_64 mF mU mX mP mK D1_42 Z1_42 []) := hD
    have hq64 : mres r64 (szn (xa.v * yb.v) (ab xa.v * PW 10 (max xa.sc (kk + yb.sc) - xa.sc) / (ab yb.v * PW 10 (max xa.sc (kk + yb.sc) - (kk + yb.sc))))) kk T1_64 S1_64 C1_64 L1_64 B1_64 ∧ thO mT mS mC mL mB T1_64 S1_64 C1_64 L1_64 B1_64 46 := hq64
    exact rt_i hx hb hr hlocks hK hS dMo_quotient_67 (T1_64, S1_64, C1_64, L1_64, B1_64, D1_42, Z1_42) hP hD (show ((yb.v = 0 ∧ r64 = -5) ∨ (yb.v ≠ 0 ∧ mres r64 (szn (xa.v * yb.v) (ab xa.v * PW 10 (max xa.sc (kk + yb.sc) - xa.sc) / (ab yb.v * PW 10 (max xa.sc (kk + yb.sc) - (kk + yb.sc))))) kk T1_64 S1_64 C1_64 L1_64 B1_64)) ∧ thO mT mS mC mL mB T1_64 S1_64 C1_64 L1_64 B1_64 46 from by exact ⟨Or.inr ⟨hyp.1, hq64.1⟩, hq64.2⟩)
  · refine lv_bipush (v := iI (-5)) hx hb dMo_quotient_9 (by decide) ?_
    exact rt_i hx hb hr hlocks hK hS dMo_quotient_11 (mT, mS, mC, mL, mB, mD, mZ) hP hD (show ((yb.v = 0 ∧ (-5) = -5) ∨ (yb.v ≠ 0 ∧ mres (-5) (szn (xa.v * yb.v) (ab xa.v * PW 10 (max xa.sc (kk + yb.sc) - xa.sc) / (ab yb.v * PW 10 (max xa.sc (kk + yb.sc) - (kk + yb.sc))))) kk mT mS mC mL mB)) ∧ thO mT mS mC mL mB mT mS mC mL mB 46 from by refine ⟨Or.inl ⟨?_, rfl⟩, thO_r⟩; unfold sgs at hSy; omega)

theorem dMo_remainder_0 : decode prog_9_method_23_code 0 = .ok (.aload_n 0, 1) := by decide +kernel
theorem dMo_remainder_1 : decode prog_9_method_23_code 1 = .ok (.getfield 17, 3) := by decide +kernel
theorem dMo_remainder_4 : decode prog_9_method_23_code 4 = .ok (.iload_n 2, 1) := by decide +kernel
theorem dMo_remainder_5 : decode prog_9_method_23_code 5 = .ok (.iaload, 1) := by decide +kernel
theorem dMo_remainder_6 : decode prog_9_method_23_code 6 = .ok (.ifCond .ne 6, 3) := by decide +kernel
theorem dMo_remainder_9 : decode prog_9_method_23_code 9 = .ok (.bipush (-5), 2) := by decide +kernel
theorem dMo_remainder_11 : decode prog_9_method_23_code 11 = .ok (.ireturn, 1) := by decide +kernel
theorem dMo_remainder_12 : decode prog_9_method_23_code 12 = .ok (.aload_n 0, 1) := by decide +kernel
theorem dMo_remainder_13 : decode prog_9_method_23_code 13 = .ok (.getfield 20, 3) := by decide +kernel
theorem dMo_remainder_16 : decode prog_9_method_23_code 16 = .ok (.iload_n 1, 1) := by decide +kernel
theorem dMo_remainder_17 : decode prog_9_method_23_code 17 = .ok (.iaload, 1) := by decide +kernel
theorem dMo_remainder_18 : decode prog_9_method_23_code 18 = .ok (.aload_n 0, 1) := by decide +kernel
theorem dMo_remainder_19 : decode prog_9_method_23_code 19 = .ok (.getfield 98, 3) := by decide +kernel
theorem dMo_remainder_22 : decode prog_9_method_23_code 22 = .ok (.aload_n 0, 1) := by decide +kernel
theorem dMo_remainder_23 : decode prog_9_method_23_code 23 = .ok (.getfield 20, 3) := by decide +kernel
theorem dMo_remainder_26 : decode prog_9_method_23_code 26 = .ok (.iload_n 2, 1) := by decide +kernel
theorem dMo_remainder_27 : decode prog_9_method_23_code 27 = .ok (.iaload, 1) := by decide +kernel
theorem dMo_remainder_28 : decode prog_9_method_23_code 28 = .ok (.iadd, 1) := by decide +kernel
theorem dMo_remainder_29 : decode prog_9_method_23_code 29 = .ok (.invokestatic 89, 3) := by decide +kernel
theorem dMo_remainder_32 : decode prog_9_method_23_code 32 = .ok (.istore_n 3, 1) := by decide +kernel
theorem dMo_remainder_33 : decode prog_9_method_23_code 33 = .ok (.iload_n 3, 1) := by decide +kernel
theorem dMo_remainder_34 : decode prog_9_method_23_code 34 = .ok (.bipush 40, 2) := by decide +kernel
theorem dMo_remainder_36 : decode prog_9_method_23_code 36 = .ok (.if_icmp .le 6, 3) := by decide +kernel
theorem dMo_remainder_39 : decode prog_9_method_23_code 39 = .ok (.bipush (-7), 2) := by decide +kernel
theorem dMo_remainder_41 : decode prog_9_method_23_code 41 = .ok (.ireturn, 1) := by decide +kernel
theorem dMo_remainder_42 : decode prog_9_method_23_code 42 = .ok (.aload_n 0, 1) := by decide +kernel
theorem dMo_remainder_43 : decode prog_9_method_23_code 43 = .ok (.iconst 0, 1) := by decide +kernel
theorem dMo_remainder_44 : decode prog_9_method_23_code 44 = .ok (.iload_n 1, 1) := by decide +kernel
theorem dMo_remainder_45 : decode prog_9_method_23_code 45 = .ok (.aload_n 0, 1) := by decide +kernel
theorem dMo_remainder_46 : decode prog_9_method_23_code 46 = .ok (.getfield 20, 3) := by decide +kernel
theorem dMo_remainder_49 : decode prog_9_method_23_code 49 = .ok (.iload_n 2, 1) := by decide +kernel
theorem dMo_remainder_50 : decode prog_9_method_23_code 50 = .ok (.iaload, 1) := by decide +kernel
theorem dMo_remainder_51 : decode prog_9_method_23_code 51 = .ok (.aload_n 0, 1) := by decide +kernel
theorem dMo_remainder_52 : decode prog_9_method_23_code 52 = .ok (.getfield 98, 3) := by decide +kernel
theorem dMo_remainder_55 : decode prog_9_method_23_code 55 = .ok (.iadd, 1) := by decide +kernel
theorem dMo_remainder_56 : decode prog_9_method_23_code 56 = .ok (.invokevirtual 92, 3) := by decide +kernel
theorem dMo_remainder_59 : decode prog_9_method_23_code 59 = .ok (.aload_n 0, 1) := by decide +kernel
theorem dMo_remainder_60 : decode prog_9_method_23_code 60 = .ok (.iconst 1, 1) := by decide +kernel
theorem dMo_remainder_61 : decode prog_9_method_23_code 61 = .ok (.iload_n 2, 1) := by decide +kernel
theorem dMo_remainder_62 : decode prog_9_method_23_code 62 = .ok (.aload_n 0, 1) := by decide +kernel
theorem dMo_remainder_63 : decode prog_9_method_23_code 63 = .ok (.getfield 20, 3) := by decide +kernel
theorem dMo_remainder_66 : decode prog_9_method_23_code 66 = .ok (.iload_n 1, 1) := by decide +kernel
theorem dMo_remainder_67 : decode prog_9_method_23_code 67 = .ok (.iaload, 1) := by decide +kernel
theorem dMo_remainder_68 : decode prog_9_method_23_code 68 = .ok (.invokevirtual 92, 3) := by decide +kernel
theorem dMo_remainder_71 : decode prog_9_method_23_code 71 = .ok (.aload_n 0, 1) := by decide +kernel
theorem dMo_remainder_72 : decode prog_9_method_23_code 72 = .ok (.invokevirtual 104, 3) := by decide +kernel
theorem dMo_remainder_75 : decode prog_9_method_23_code 75 = .ok (.aload_n 0, 1) := by decide +kernel
theorem dMo_remainder_76 : decode prog_9_method_23_code 76 = .ok (.iconst 1, 1) := by decide +kernel
theorem dMo_remainder_77 : decode prog_9_method_23_code 77 = .ok (.iload_n 2, 1) := by decide +kernel
theorem dMo_remainder_78 : decode prog_9_method_23_code 78 = .ok (.iconst 0, 1) := by decide +kernel
theorem dMo_remainder_79 : decode prog_9_method_23_code 79 = .ok (.invokevirtual 92, 3) := by decide +kernel
theorem dMo_remainder_82 : decode prog_9_method_23_code 82 = .ok (.aload_n 0, 1) := by decide +kernel
theorem dMo_remainder_83 : decode prog_9_method_23_code 83 = .ok (.iconst 0, 1) := by decide +kernel
theorem dMo_remainder_84 : decode prog_9_method_23_code 84 = .ok (.iconst 2, 1) := by decide +kernel
theorem dMo_remainder_85 : decode prog_9_method_23_code 85 = .ok (.iconst 1, 1) := by decide +kernel
theorem dMo_remainder_86 : decode prog_9_method_23_code 86 = .ok (.invokevirtual 95, 3) := by decide +kernel
theorem dMo_remainder_89 : decode prog_9_method_23_code 89 = .ok (.aload_n 0, 1) := by decide +kernel
theorem dMo_remainder_90 : decode prog_9_method_23_code 90 = .ok (.iconst 0, 1) := by decide +kernel
theorem dMo_remainder_91 : decode prog_9_method_23_code 91 = .ok (.iload_n 3, 1) := by decide +kernel
theorem dMo_remainder_92 : decode prog_9_method_23_code 92 = .ok (.aload_n 0, 1) := by decide +kernel
theorem dMo_remainder_93 : decode prog_9_method_23_code 93 = .ok (.getfield 98, 3) := by decide +kernel
theorem dMo_remainder_96 : decode prog_9_method_23_code 96 = .ok (.isub, 1) := by decide +kernel
theorem dMo_remainder_97 : decode prog_9_method_23_code 97 = .ok (.aload_n 0, 1) := by decide +kernel
theorem dMo_remainder_98 : decode prog_9_method_23_code 98 = .ok (.getfield 20, 3) := by decide +kernel
theorem dMo_remainder_101 : decode prog_9_method_23_code 101 = .ok (.iload_n 2, 1) := by decide +kernel
theorem dMo_remainder_102 : decode prog_9_method_23_code 102 = .ok (.iaload, 1) := by decide +kernel
theorem dMo_remainder_103 : decode prog_9_method_23_code 103 = .ok (.isub, 1) := by decide +kernel
theorem dMo_remainder_104 : decode prog_9_method_23_code 104 = .ok (.iconst 0, 1) := by decide +kernel
theorem dMo_remainder_105 : decode prog_9_method_23_code 105 = .ok (.invokevirtual 58, 3) := by decide +kernel
theorem dMo_remainder_108 : decode prog_9_method_23_code 108 = .ok (.aload_n 0, 1) := by decide +kernel
theorem dMo_remainder_109 : decode prog_9_method_23_code 109 = .ok (.iconst 1, 1) := by decide +kernel
theorem dMo_remainder_110 : decode prog_9_method_23_code 110 = .ok (.iload_n 1, 1) := by decide +kernel
theorem dMo_remainder_111 : decode prog_9_method_23_code 111 = .ok (.iload_n 3, 1) := by decide +kernel
theorem dMo_remainder_112 : decode prog_9_method_23_code 112 = .ok (.aload_n 0, 1) := by decide +kernel
theorem dMo_remainder_113 : decode prog_9_method_23_code 113 = .ok (.getfield 20, 3) := by decide +kernel
theorem dMo_remainder_116 : decode prog_9_method_23_code 116 = .ok (.iload_n 1, 1) := by decide +kernel
theorem dMo_remainder_117 : decode prog_9_method_23_code 117 = .ok (.iaload, 1) := by decide +kernel
theorem dMo_remainder_118 : decode prog_9_method_23_code 118 = .ok (.isub, 1) := by decide +kernel
theorem dMo_remainder_119 : decode prog_9_method_23_code 119 = .ok (.invokevirtual 92, 3) := by decide +kernel
theorem dMo_remainder_122 : decode prog_9_method_23_code 122 = .ok (.aload_n 0, 1) := by decide +kernel
theorem dMo_remainder_123 : decode prog_9_method_23_code 123 = .ok (.iconst 1, 1) := by decide +kernel
theorem dMo_remainder_124 : decode prog_9_method_23_code 124 = .ok (.iconst 0, 1) := by decide +kernel
theorem dMo_remainder_125 : decode prog_9_method_23_code 125 = .ok (.invokevirtual 66, 3) := by decide +kernel
theorem dMo_remainder_128 : decode prog_9_method_23_code 128 = .ok (.aload_n 0, 1) := by decide +kernel
theorem dMo_remainder_129 : decode prog_9_method_23_code 129 = .ok (.iconst 1, 1) := by decide +kernel
theorem dMo_remainder_130 : decode prog_9_method_23_code 130 = .ok (.aload_n 0, 1) := by decide +kernel
theorem dMo_remainder_131 : decode prog_9_method_23_code 131 = .ok (.getfield 17, 3) := by decide +kernel
theorem dMo_remainder_134 : decode prog_9_method_23_code 134 = .ok (.iload_n 1, 1) := by decide +kernel
theorem dMo_remainder_135 : decode prog_9_method_23_code 135 = .ok (.iaload, 1) := by decide +kernel
theorem dMo_remainder_136 : decode prog_9_method_23_code 136 = .ok (.iload_n 3, 1) := by decide +kernel
theorem dMo_remainder_137 : decode prog_9_method_23_code 137 = .ok (.invokevirtual 79, 3) := by decide +kernel
theorem dMo_remainder_140 : decode prog_9_method_23_code 140 = .ok (.ireturn, 1) := by decide +kernel
abbrev qMo_remainder (dC : Nat → ClassId) (dI : Nat → Nat → Nat) (dA : Nat → ClassId) (mo : Nat) (ft : Int) (lf : Int) (hg : Int) (kk : Int) (tx : Int) (pn : Int) (tk : Int) (fm : Int) (tO : Int) (tl : Int) (mI : Int → Int) (mT : Int → Int) (mS : Int → Int) (mC : Int → Int) (mL : Int → Int) (mB : Int → Int) (mF : Int → Int) (mU : Int → Int) (mX : Int → Int) (mP : Int → Int) (mK : Int → Int) (mD : Int → Int) (mZ : Int → Int) (x : Int) (y : Int) (xa : Th) (yb : Th) (A : Nat → Prop) : Array Value → State → Outcome → State → Prop := QI (dC, dI) vwCl (tyA dA) (fun (r : Int) (v_ : (Int → Int) × (Int → Int) × (Int → Int) × (Int → Int) × (Int → Int) × (Int → Int) × (Int → Int)) => ((yb.v = 0 ∧ r = -5) ∨ (yb.v ≠ 0 ∧ 40 < max xa.sc (kk + yb.sc) ∧ r = -7) ∨ (yb.v ≠ 0 ∧ max xa.sc (kk + yb.sc) ≤ 40 ∧ mres r (szn xa.v (ab xa.v * PW 10 (max xa.sc (kk + yb.sc) - xa.sc) % (ab yb.v * PW 10 (max xa.sc (kk + yb.sc) - (kk + yb.sc))))) (max xa.sc (kk + yb.sc)) v_.1 v_.2.1 v_.2.2.1 v_.2.2.2.1 v_.2.2.2.2.1)) ∧ thO mT mS mC mL mB v_.1 v_.2.1 v_.2.2.1 v_.2.2.2.1 v_.2.2.2.2.1 46) (fun (v_ : (Int → Int) × (Int → Int) × (Int → Int) × (Int → Int) × (Int → Int) × (Int → Int) × (Int → Int)) => wMo dA mo ft lf hg kk tx pn tk fm tO tl mI v_.1 v_.2.1 v_.2.2.1 v_.2.2.2.1 v_.2.2.2.2.1 mF mU mX mP mK v_.2.2.2.2.2.1 v_.2.2.2.2.2.2 []) A
abbrev rmMo_remainder : Room := { frames := 3, cells := 0, slots := 0, locals := 68 }
set_option maxRecDepth 100000 in
set_option maxHeartbeats 1000000 in
theorem cMo_remainder (l : Launch) (dC : Nat → ClassId) (dI : Nat → Nat → Nat) (dA : Nat → ClassId) (mo : Nat) (ft : Int) (lf : Int) (hg : Int) (kk : Int) (tx : Int) (pn : Int) (tk : Int) (fm : Int) (tO : Int) (tl : Int) (mI : Int → Int) (mT : Int → Int) (mS : Int → Int) (mC : Int → Int) (mL : Int → Int) (mB : Int → Int) (mF : Int → Int) (mU : Int → Int) (mX : Int → Int) (mP : Int → Int) (mK : Int → Int) (mD : Int → Int) (mZ : Int → Int) (x : Int) (y : Int) (xa : Th) (yb : Th) (hxy : 0 ≤ x ∧ x ≤ 46 ∧ 0 ≤ y ∧ y ≤ 46) (hTa : MT mT mS mC mL mB x xa) (hta : xa.t = 0) (hTb : MT mT mS mC mL mB y yb) (htb : yb.t = 0) (hkk : 0 ≤ kk ∧ kk ≤ 40) (sz : Nat) : Met l yMo_remainder wsMo_remainder rmMo_remainder (PC (dC, dI) vwCl (tyA dA) XN [.ref mo, .int (iI x), .int (iI y)] (wMo dA mo ft lf hg kk tx pn tk fm tO tl mI mT mS mC mL mB mF mU mX mP mK mD mZ []) sz) (qMo_remainder dC dI dA mo ft lf hg kk tx pn tk fm tO tl mI mT mS mC mL mB mF mU mX mP mK mD mZ x y xa yb (va_A (wMo dA mo ft lf hg kk tx pn tk fm tO tl mI mT mS mC mL mB mF mU mX mP mK mD mZ []) sz)) 0 0 (va_A (wMo dA mo ft lf hg kk tx pn tk fm tO tl mI mT mS mC mL mB mF mU mX mP mK mD mZ []) sz) := by
  refine met_of (cc := prog_9_method_23_code) (maxL := 4) (ret := (some .int)) (Qc := qMo_remainder dC dI dA mo ft lf hg kk tx pn tk fm tO tl mI mT mS mC mL mB mF mU mX mP mK mD mZ x y xa yb) XN_ok (by decide) rfl (Nat.le_of_ble_eq_true rfl) ?_
  intro p e s m below meth c ls A hx hb hr hml hown hts hlocks hnm hK hP hD hA hX hS hl
  have hl : lv_has ls 4 [(0, .ref mo), (1, .int (iI x)), (2, .int (iI y))] := hl
  have hown : s.vm.findClass "MacroReckonerModel" = some m.cls := hown
  obtain ⟨H, hH⟩ : ∃ H : Heap, H = s.heap := ⟨_, rfl⟩
  obtain ⟨locs, hlo⟩ : ∃ L : List Loc, L = [] := ⟨_, rfl⟩
  have hP : va_P (dC, dI) vwCl (wMo dA mo ft lf hg kk tx pn tk fm tO tl mI mT mS mC mL mB mF mU mX mP mK mD mZ []) H := hH ▸ hP
  have hS : va_S A s.heap H locs := by rw [hH, hlo]; exact hS
  suffices hgo : W p l e rmMo_remainder s m [.ref mo, .int (iI x), .int (iI y)].toArray below meth c H locs 0 0 (MQ below (qMo_remainder dC dI dA mo ft lf hg kk tx pn tk fm tO tl mI mT mS mC mL mB mF mU mX mP mK mD mZ x y xa yb A) [.ref mo, .int (iI x), .int (iI y)].toArray s 0 0 A) (F0 m 0 ls []) by rw [hH, hlo] at hgo; exact hgo
  clear hH hlo
  obtain ⟨hCx, hscx, hTx, hSx⟩ := MT_n hTa hta
  have hbx := TD_bd hTx
  have hlx := (MT_b hTa).2.2.2.2
  obtain ⟨hCy, hscy, hTy, hSy⟩ := MT_n hTb htb
  have hby := TD_bd hTy
  have hly := (MT_b hTb).2.2.2.2
  refine lv_aload_n hx hb dMo_remainder_0 rfl (lv_at hl 0 rfl) ?_
  refine va_get (D := (dC, dI)) (ci := 7) (v := .ref (mo + 3)) (C := "MacroReckonerModel") (T := TMo) (N := 23) hx hb hts inMo hown hK hP 0 rfl rfl 4 (by decide) (hts _ wt4_62) (fun _ h9 => h9) rfl dMo_remainder_1 ?_
  refine lv_iload_n hx hb dMo_remainder_4 rfl (lv_at hl 2 rfl) ?_
  refine iv_iald hx hb hK hP 3 0 rfl rfl (by decide) dMo_remainder_5 (by omega) (by omega) ?_
  refine iv_if_ne (tgt := 12) hx hb dMo_remainder_6 (by decide) ⟨by omega, by omega⟩ (fun hc6 => ?_) (fun hc6 => ?_)
  · have hyp : yb.v ≠ 0 ∧ 0 < ab yb.v := by unfold sgs at hSy; unfold ab; omega
    have hX0 := Int.mul_nonneg (ab_nn (x := xa.v)) (Int.le_of_lt (PW_pos (b := 10) (by decide) (max xa.sc (kk + yb.sc) - xa.sc)))
    refine lv_aload_n hx hb dMo_remainder_12 rfl (lv_at hl 0 rfl) ?_
    refine va_get (D := (dC, dI)) (ci := 7) (v := .ref (mo + 4)) (C := "MacroReckonerModel") (T := TMo) (N := 23) hx hb hts inMo hown hK hP 0 rfl rfl 5 (by decide) (hts _ wt4_63) (fun _ h9 => h9) rfl dMo_remainder_13 ?_
    refine lv_iload_n hx hb dMo_remainder_16 rfl (lv_at hl 1 rfl) ?_
    refine iv_iald hx hb hK hP 4 0 rfl rfl (by decide) dMo_remainder_17 (by omega) (by omega) ?_
    refine lv_aload_n hx hb dMo_remainder_18 rfl (lv_at hl 0 rfl) ?_
    refine va_get (D := (dC, dI)) (ci := 7) (v := .int (iI kk)) (C := "MacroReckonerModel") (T := TMo) (N := 23) hx hb hts inMo hown hK hP 0 rfl rfl 9 (by decide) (hts _ wt4_67) (fun _ h9 => h9) rfl dMo_remainder_19 ?_
    refine lv_aload_n hx hb dMo_remainder_22 rfl (lv_at hl 0 rfl) ?_
    refine va_get (D := (dC, dI)) (ci := 7) (v := .ref (mo + 4)) (C := "MacroReckonerModel") (T := TMo) (N := 23) hx hb hts inMo hown hK hP 0 rfl rfl 5 (by decide) (hts _ wt4_63) (fun _ h9 => h9) rfl dMo_remainder_23 ?_
    refine lv_iload_n hx hb dMo_remainder_26 rfl (lv_at hl 2 rfl) ?_
    refine iv_iald hx hb hK hP 4 0 rfl rfl (by decide) dMo_remainder_27 (by omega) (by omega) ?_
    refine iv_iadd hx hb dMo_remainder_28 ?_
    refine cv_i (va_runS (As := [.int (iI (mC x)), .int (iI (kk + (mC y)))]) (rest := []) ⟨hx, hb, hml, hown, hts⟩ (cMo_greater l dC dI dA (mC x) (kk + (mC y)) (by omega) H.size) (cwS 2 hts (gdS wt4_223 wt4_224 wt1_8 wt4_225) rfl rfl rfl ⟨rfl, by decide, by decide, by decide +kernel⟩ ⟨by decide, by decide⟩) (preS hK hP hD hS hA XN_ok trivial [] rfl rfl) rfl rfl hl.1 rfl (lv_room (Nat.le_of_ble_eq_true rfl)) dMo_remainder_29 ⟨Nat.zero_le _, Nat.zero_le _⟩) hP hD hS hA [] [0, 1, 2, 3, 4, 5, 6, 7, 8, 9, 10, 11, 12, 13] rfl (fun v_ => wMo dA mo ft lf hg kk tx pn tk fm tO tl mI mT mS mC mL mB mF mU mX mP mK mD mZ []) (fun _ => rfl) (wMo dA mo ft lf hg kk tx pn tk fm tO tl mI mT mS mC mL mB mF mU mX mP mK mD mZ []) rfl (fun _ => rfl) [mo, mo + 1, mo + 2, mo + 3, mo + 4, mo + 5, mo + 6, mo + 7, mo + 8, mo + 9, mo + 10, mo + 11, mo + 12, mo + 13] rfl (fun _ => rfl) (fun _ => rfl) (fun t9 u_ H locs hq29 hP hD hS => ?_)
    have hP : va_P (dC, dI) vwCl (wMo dA mo ft lf hg kk tx pn tk fm tO tl mI mT mS mC mL mB mF mU mX mP mK mD mZ []) H := hP
    have hD : va_D A (wMo dA mo ft lf hg kk tx pn tk fm tO tl mI mT mS mC mL mB mF mU mX mP mK mD mZ []) := hD
    have hq29 : t9 = max (mC x) (kk + (mC y)) := hq29
    rw [hCx, hCy] at hq29
    refine lv_istore_n (lv' := [(3, .int (iI t9)), (0, .ref mo), (1, .int (iI x)), (2, .int (iI y))]) hx hb dMo_remainder_32 rfl hl (by decide) rfl (fun ls hl => ?_)
    refine lv_iload_n hx hb dMo_remainder_33 rfl (lv_at hl 0 rfl) ?_
    refine lv_bipush (v := iI 40) hx hb dMo_remainder_34 (by decide) ?_
    refine iv_icmp_le (tgt := 42) hx hb dMo_remainder_36 (by decide) ⟨by omega, by omega⟩ ⟨by decide, by decide⟩ (fun hc36 => ?_) (fun hc36 => ?_)
    · have hrm := rm_1 (X := ab xa.v * PW 10 (max xa.sc (kk + yb.sc) - xa.sc)) (b := ab yb.v) (p := PW 10 (max xa.sc (kk + yb.sc) - (kk + yb.sc))) hX0 hyp.2 (by have h := PW_pos (b := 10) (by decide) (max xa.sc (kk + yb.sc) - (kk + yb.sc)); omega)
      have hwx := w60 hbx.1 hbx.2 (show 0 ≤ max xa.sc (kk + yb.sc) - xa.sc by omega) (by omega)
      have hw1 := PW_mono (b := 10) (i := 60 + (max xa.sc (kk + yb.sc) - xa.sc)) (j := 100) (by decide) (by omega) (by omega)
      refine lv_aload_n hx hb dMo_remainder_42 rfl (lv_at hl 1 rfl) ?_
      refine lv_iconst (v := iI 0) hx hb dMo_remainder_43 rfl ?_
      refine lv_iload_n hx hb dMo_remainder_44 rfl (lv_at hl 2 rfl) ?_
      refine lv_aload_n hx hb dMo_remainder_45 rfl (lv_at hl 1 rfl) ?_
      refine va_get (D := (dC, dI)) (ci := 7) (v := .ref (mo + 4)) (C := "MacroReckonerModel") (T := TMo) (N := 23) hx hb hts inMo hown hK hP 0 rfl rfl 5 (by decide) (hts _ wt4_63) (fun _ h9 => h9) rfl dMo_remainder_46 ?_
      refine lv_iload_n hx hb dMo_remainder_49 rfl (lv_at hl 3 rfl) ?_
      refine iv_iald hx hb hK hP 4 0 rfl rfl (by decide) dMo_remainder_50 (by omega) (by omega) ?_
      refine lv_aload_n hx hb dMo_remainder_51 rfl (lv_at hl 1 rfl) ?_
      refine va_get (D := (dC, dI)) (ci := 7) (v := .int (iI kk)) (C := "MacroReckonerModel") (T := TMo) (N := 23) hx hb hts inMo hown hK hP 0 rfl rfl 9 (by decide) (hts _ wt4_67) (fun _ h9 => h9) rfl dMo_remainder_52 ?_
      refine iv_iadd hx hb dMo_remainder_55 ?_
      refine cv_v (va_runV (C := "MacroReckonerModel") (As := [.int (iI 0), .int (iI x), .int (iI ((mC y) + kk))]) (rest := []) ⟨hx, hb, hml, hown, hts⟩ (cMo_load l dC dI dA mo ft lf hg kk tx pn tk fm tO tl mI mT mS mC mL mB mF mU mX mP mK mD mZ 0 x ((mC y) + kk) (ab xa.v) (by omega) (by omega) (by exact hTx) H.size) (cwV 3 hts (gdV wt4_226 wt4_228 ws4_10 wt1_8 wt4_229) rfl rfl rfl ⟨rfl, by decide, by decide, by decide +kernel⟩ ⟨by decide, by decide⟩) (preV (q := ("MacroReckonerModel", TMo, 23)) hK hP hD hS hA XN_ok trivial [0, 1, 2, 3, 4, 5, 6, 7, 8, 9, 10, 11, 12, 13] rfl rfl 0 rfl rfl) rfl rfl hl.1 rfl (lv_room (Nat.le_of_ble_eq_true rfl)) dMo_remainder_56 ⟨Nat.zero_le _, Nat.zero_le _⟩) hP hD hS hA [0, 1, 2, 3, 4, 5, 6, 7, 8, 9, 10, 11, 12, 13] [] rfl (fun v_ => wMo dA mo ft lf hg kk tx pn tk fm tO tl mI mT mS mC mL mB mF mU mX mP mK v_.1 v_.2 []) (fun _ => rfl) ([] : va_W) rfl (fun _ => rfl) [mo, mo + 1, mo + 2, mo + 3, mo + 4, mo + 5, mo + 6, mo + 7, mo + 8, mo + 9, mo + 10, mo + 11, mo + 12, mo + 13] rfl (fun _ => rfl) (fun _ => rfl) (fun u_ H locs hq56 hP hD hS => ?_)
      obtain ⟨D1_56, Z1_56⟩ := u_
      have hP : va_P (dC, dI) vwCl (wMo dA mo ft lf hg kk tx pn tk fm tO tl mI mT mS mC mL mB mF mU mX mP mK D1_56 Z1_56 []) H := hP
      have hD : va_D A (wMo dA mo ft lf hg kk tx pn tk fm tO tl mI mT mS mC mL mB mF mU mX mP mK D1_56 Z1_56 []) := hD
      have hq56 : MR D1_56 Z1_56 0 ((ab xa.v) * PW 10 ((mC y) + kk)) ∧ others mD mZ D1_56 Z1_56 0 := hq56
      rw [hCy] at hq56
      refine lv_aload_n hx hb dMo_remainder_59 rfl (lv_at hl 1 rfl) ?_
      refine lv_iconst (v := iI 1) hx hb dMo_remainder_60 rfl ?_
      refine lv_iload_n hx hb dMo_remainder_61 rfl (lv_at hl 3 rfl) ?_
      refine lv_aload_n hx hb dMo_remainder_62 rfl (lv_at hl 1 rfl) ?_
      refine va_get (D := (dC, dI)) (ci := 7) (v := .ref (mo + 4)) (C := "MacroReckonerModel") (T := TMo) (N := 23) hx hb hts inMo hown hK hP 0 rfl rfl 5 (by decide) (hts _ wt4_63) (fun _ h9 => h9) rfl dMo_remainder_63 ?_
      refine lv_iload_n hx hb dMo_remainder_66 rfl (lv_at hl 2 rfl) ?_
      refine iv_iald hx hb hK hP 4 0 rfl rfl (by decide) dMo_remainder_67 (by omega) (by omega) ?_
      refine cv_v (va_runV (C := "MacroReckonerModel") (As := [.int (iI 1), .int (iI y), .int (iI (mC x))]) (rest := []) ⟨hx, hb, hml, hown, hts⟩ (cMo_load l dC dI dA mo ft lf hg kk tx pn tk fm tO tl mI mT mS mC mL mB mF mU mX mP mK D1_56 Z1_56 1 y (mC x) (ab yb.v) (by omega) (by omega) (by exact hTy) H.size) (cwV 3 hts (gdV wt4_226 wt4_228 ws4_10 wt1_8 wt4_229) rfl rfl rfl ⟨rfl, by decide, by decide, by decide +kernel⟩ ⟨by decide, by decide⟩) (preV (q := ("MacroReckonerModel", TMo, 23)) hK hP hD hS hA XN_ok trivial [0, 1, 2, 3, 4, 5, 6, 7, 8, 9, 10, 11, 12, 13] rfl rfl 0 rfl rfl) rfl rfl hl.1 rfl (lv_room (Nat.le_of_ble_eq_true rfl)) dMo_remainder_68 ⟨Nat.zero_le _, Nat.zero_le _⟩) hP hD hS hA [0, 1, 2, 3, 4, 5, 6, 7, 8, 9, 10, 11, 12, 13] [] rfl (fun v_ => wMo dA mo ft lf hg kk tx pn tk fm tO tl mI mT mS mC mL mB mF mU mX mP mK v_.1 v_.2 []) (fun _ => rfl) ([] : va_W) rfl (fun _ => rfl) [mo, mo + 1, mo + 2, mo + 3, mo + 4, mo + 5, mo + 6, mo + 7, mo + 8, mo + 9, mo + 10, mo + 11, mo + 12, mo + 13] rfl (fun _ => rfl) (fun _ => rfl) (fun u_ H locs hq68 hP hD hS => ?_)
      obtain ⟨D1_68, Z1_68⟩ := u_
      have hP : va_P (dC, dI) vwCl (wMo dA mo ft lf hg kk tx pn tk fm tO tl mI mT mS mC mL mB mF mU mX mP mK D1_68 Z1_68 []) H := hP
      have hD : va_D A (wMo dA mo ft lf hg kk tx pn tk fm tO tl mI mT mS mC mL mB mF mU mX mP mK D1_68 Z1_68 []) := hD
      have hq68 : MR D1_68 Z1_68 1 ((ab yb.v) * PW 10 (mC x)) ∧ others D1_56 Z1_56 D1_68 Z1_68 1 := hq68
      rw [hCx] at hq68
      have h0 := MR_o hq68.2 (by decide) hq56.1
      have hz1 := M_sz hq68.1 (w60 hby.1 hby.2 (show 0 ≤ xa.sc by omega) (by omega)).1 (by omega)
      refine lv_aload_n hx hb dMo_remainder_71 rfl (lv_at hl 1 rfl) ?_
      refine cv_v (va_runV (C := "MacroReckonerModel") (As := []) (rest := []) ⟨hx, hb, hml, hown, hts⟩ (cMo_divide l dC dI dA mo ft lf hg kk tx pn tk fm tO tl mI mT mS mC mL mB mF mU mX mP mK D1_68 Z1_68 (ab xa.v * PW 10 (yb.sc + kk)) (ab yb.v * PW 10 xa.sc) (by exact h0) (by exact hq68.1) (by exact m_pos hyp.2) (by omega) H.size) (cwV 0 hts (gdV wt5_37 wt5_39 ws5_6 wt1_8 wt5_40) rfl rfl rfl ⟨rfl, by decide, by decide, by decide +kernel⟩ ⟨by decide, by decide⟩) (preV (q := ("MacroReckonerModel", TMo, 23)) hK hP hD hS hA XN_ok trivial [0, 1, 2, 3, 4, 5, 6, 7, 8, 9, 10, 11, 12, 13] rfl rfl 0 rfl rfl) rfl rfl hl.1 rfl (lv_room (Nat.le_of_ble_eq_true rfl)) dMo_remainder_72 ⟨Nat.zero_le _, Nat.zero_le _⟩) hP hD hS hA [0, 1, 2, 3, 4, 5, 6, 7, 8, 9, 10, 11, 12, 13] [] rfl (fun v_ => wMo dA mo ft lf hg kk tx pn tk fm tO tl mI mT mS mC mL mB mF mU mX mP mK v_.1 v_.2 []) (fun _ => rfl) ([] : va_W) rfl (fun _ => rfl) [mo, mo + 1, mo + 2, mo + 3, mo + 4, mo + 5, mo + 6, mo + 7, mo + 8, mo + 9, mo + 10, mo + 11, mo + 12, mo + 13] rfl (fun _ => rfl) (fun _ => rfl) (fun u_ H locs hq72 hP hD hS => ?_)
      obtain ⟨D1_72, Z1_72⟩ := u_
      have hP : va_P (dC, dI) vwCl (wMo dA mo ft lf hg kk tx pn tk fm tO tl mI mT mS mC mL mB mF mU mX mP mK D1_72 Z1_72 []) H := hP
      have hD : va_D A (wMo dA mo ft lf hg kk tx pn tk fm tO tl mI mT mS mC mL mB mF mU mX mP mK D1_72 Z1_72 []) := hD
      have hq72 : MR D1_72 Z1_72 2 ((ab xa.v * PW 10 (yb.sc + kk)) / (ab yb.v * PW 10 xa.sc)) ∧ MR D1_72 Z1_72 3 ((ab xa.v * PW 10 (yb.sc + kk)) % (ab yb.v * PW 10 xa.sc)) ∧ (∀ p, p < 680 ∨ 1360 ≤ p → D1_72 p = D1_68 p) ∧ ∀ t, t ≠ 2 → t ≠ 3 → Z1_72 t = Z1_68 t := hq72
      have hqc := hq72.1
      rw [qr_2 (t := max xa.sc (kk + yb.sc)) rfl hscx.1 hscy.1 hkk.1] at hqc
      refine lv_aload_n hx hb dMo_remainder_75 rfl (lv_at hl 1 rfl) ?_
      refine lv_iconst (v := iI 1) hx hb dMo_remainder_76 rfl ?_
      refine lv_iload_n hx hb dMo_remainder_77 rfl (lv_at hl 3 rfl) ?_
      refine lv_iconst (v := iI 0) hx hb dMo_remainder_78 rfl ?_
      refine cv_v (va_runV (C := "MacroReckonerModel") (As := [.int (iI 1), .int (iI y), .int (iI 0)]) (rest := []) ⟨hx, hb, hml, hown, hts⟩ (cMo_load l dC dI dA mo ft lf hg kk tx pn tk fm tO tl mI mT mS mC mL mB mF mU mX mP mK D1_72 Z1_72 1 y 0 (ab yb.v) (by omega) (by omega) (by exact hTy) H.size) (cwV 3 hts (gdV wt4_226 wt4_228 ws4_10 wt1_8 wt4_229) rfl rfl rfl ⟨rfl, by decide, by decide, by decide +kernel⟩ ⟨by decide, by decide⟩) (preV (q := ("MacroReckonerModel", TMo, 23)) hK hP hD hS hA XN_ok trivial [0, 1, 2, 3, 4, 5, 6, 7, 8, 9, 10, 11, 12, 13] rfl rfl 0 rfl rfl) rfl rfl hl.1 rfl (lv_room (Nat.le_of_ble_eq_true rfl)) dMo_remainder_79 ⟨Nat.zero_le _, Nat.zero_le _⟩) hP hD hS hA [0, 1, 2, 3, 4, 5, 6, 7, 8, 9, 10, 11, 12, 13] [] rfl (fun v_ => wMo dA mo ft lf hg kk tx pn tk fm tO tl mI mT mS mC mL mB mF mU mX mP mK v_.1 v_.2 []) (fun _ => rfl) ([] : va_W) rfl (fun _ => rfl) [mo, mo + 1, mo + 2, mo + 3, mo + 4, mo + 5, mo + 6, mo + 7, mo + 8, mo + 9, mo + 10, mo + 11, mo + 12, mo + 13] rfl (fun _ => rfl) (fun _ => rfl) (fun u_ H locs hq79 hP hD hS => ?_)
      obtain ⟨D1_79, Z1_79⟩ := u_
      have hP : va_P (dC, dI) vwCl (wMo dA mo ft lf hg kk tx pn tk fm tO tl mI mT mS mC mL mB mF mU mX mP mK D1_79 Z1_79 []) H := hP
      have hD : va_D A (wMo dA mo ft lf hg kk tx pn tk fm tO tl mI mT mS mC mL mB mF mU mX mP mK D1_79 Z1_79 []) := hD
      have hq79 : MR D1_79 Z1_79 1 ((ab yb.v) * PW 10 0) ∧ others D1_72 Z1_72 D1_79 Z1_79 1 := hq79
      rw [PW_0, Int.mul_one] at hq79
      have h2q := MR_o hq79.2 (by decide) hqc
      have hz2 := M_sz h2q (show _ < PW 10 100 by omega) (by decide)
      have hz3 := M_sz hq79.1 hby.2 (by decide)
      refine lv_aload_n hx hb dMo_remainder_82 rfl (lv_at hl 1 rfl) ?_
      refine lv_iconst (v := iI 0) hx hb dMo_remainder_83 rfl ?_
      refine lv_iconst (v := iI 2) hx hb dMo_remainder_84 rfl ?_
      refine lv_iconst (v := iI 1) hx hb dMo_remainder_85 rfl ?_
      refine cv_v (va_runV (C := "MacroReckonerModel") (As := [.int (iI 0), .int (iI 2), .int (iI 1)]) (rest := []) ⟨hx, hb, hml, hown, hts⟩ (cMo_multiply l dC dI dA mo ft lf hg kk tx pn tk fm tO tl mI mT mS mC mL mB mF mU mX mP mK D1_79 Z1_79 0 2 1 (ab xa.v * PW 10 (max xa.sc (kk + yb.sc) - xa.sc) / (ab yb.v * PW 10 (max xa.sc (kk + yb.sc) - (kk + yb.sc)))) (ab yb.v) (by omega) (by exact h2q) (by exact hq79.1) (by omega) H.size) (cwV 3 hts (gdV wt5_25 wt5_27 ws5_3 wt1_8 wt5_28) rfl rfl rfl ⟨rfl, by decide, by decide, by decide +kernel⟩ ⟨by decide, by decide⟩) (preV (q := ("MacroReckonerModel", TMo, 23)) hK hP hD hS hA XN_ok trivial [0, 1, 2, 3, 4, 5, 6, 7, 8, 9, 10, 11, 12, 13] rfl rfl 0 rfl rfl) rfl rfl hl.1 rfl (lv_room (Nat.le_of_ble_eq_true rfl)) dMo_remainder_86 ⟨Nat.zero_le _, Nat.zero_le _⟩) hP hD hS hA [0, 1, 2, 3, 4, 5, 6, 7, 8, 9, 10, 11, 12, 13] [] rfl (fun v_ => wMo dA mo ft lf hg kk tx pn tk fm tO tl mI mT mS mC mL mB mF mU mX mP mK v_.1 v_.2 []) (fun _ => rfl) ([] : va_W) rfl (fun _ => rfl) [mo, mo + 1, mo + 2, mo + 3, mo + 4, mo + 5, mo + 6, mo + 7, mo + 8, mo + 9, mo + 10, mo + 11, mo + 12, mo + 13] rfl (fun _ => rfl) (fun _ => rfl) (fun u_ H locs hq86 hP hD hS => ?_)
      obtain ⟨D1_86, Z1_86⟩ := u_
      have hP : va_P (dC, dI) vwCl (wMo dA mo ft lf hg kk tx pn tk fm tO tl mI mT mS mC mL mB mF mU mX mP mK D1_86 Z1_86 []) H := hP
      have hD : va_D A (wMo dA mo ft lf hg kk tx pn tk fm tO tl mI mT mS mC mL mB mF mU mX mP mK D1_86 Z1_86 []) := hD
      have hq86 : MR D1_86 Z1_86 0 ((ab xa.v * PW 10 (max xa.sc (kk + yb.sc) - xa.sc) / (ab yb.v * PW 10 (max xa.sc (kk + yb.sc) - (kk + yb.sc)))) * (ab yb.v)) ∧ others D1_79 Z1_79 D1_86 Z1_86 0 := hq86
      have hz4 := M_sz hq86.1 (show _ < PW 10 100 by omega) (by decide)
      refine lv_aload_n hx hb dMo_remainder_89 rfl (lv_at hl 1 rfl) ?_
      refine lv_iconst (v := iI 0) hx hb dMo_remainder_90 rfl ?_
      refine lv_iload_n hx hb dMo_remainder_91 rfl (lv_at hl 0 rfl) ?_
      refine lv_aload_n hx hb dMo_remainder_92 rfl (lv_at hl 1 rfl) ?_
      refine va_get (D := (dC, dI)) (ci := 7) (v := .int (iI kk)) (C := "MacroReckonerModel") (T := TMo) (N := 23) hx hb hts inMo hown hK hP 0 rfl rfl 9 (by decide) (hts _ wt4_67) (fun _ h9 => h9) rfl dMo_remainder_93 ?_
      refine iv_isub hx hb dMo_remainder_96 ?_
      refine lv_aload_n hx hb dMo_remainder_97 rfl (lv_at hl 1 rfl) ?_
      refine va_get (D := (dC, dI)) (ci := 7) (v := .ref (mo + 4)) (C := "MacroReckonerModel") (T := TMo) (N := 23) hx hb hts inMo hown hK hP 0 rfl rfl 5 (by decide) (hts _ wt4_63) (fun _ h9 => h9) rfl dMo_remainder_98 ?_
      refine lv_iload_n hx hb dMo_remainder_101 rfl (lv_at hl 3 rfl) ?_
      refine iv_iald hx hb hK hP 4 0 rfl rfl (by decide) dMo_remainder_102 (by omega) (by omega) ?_
      refine iv_isub hx hb dMo_remainder_103 ?_
      refine lv_iconst (v := iI 0) hx hb dMo_remainder_104 rfl ?_
      refine cv_v (va_runV (C := "MacroReckonerModel") (As := [.int (iI 0), .int (iI ((t9 - kk) - (mC y))), .int (iI 0)]) (rest := []) ⟨hx, hb, hml, hown, hts⟩ (cMo_append l dC dI dA mo ft lf hg kk tx pn tk fm tO tl mI mT mS mC mL mB mF mU mX mP mK D1_86 Z1_86 0 ((t9 - kk) - (mC y)) 0 (ab xa.v * PW 10 (max xa.sc (kk + yb.sc) - xa.sc) / (ab yb.v * PW 10 (max xa.sc (kk + yb.sc) - (kk + yb.sc))) * ab yb.v) (by omega) (by omega) (by exact hq86.1) H.size) (cwV 3 hts (gdV wt4_187 wt4_189 ws4_1 wt1_8 wt4_190) rfl rfl rfl ⟨rfl, by decide, by decide, by decide +kernel⟩ ⟨by decide, by decide⟩) (preV (q := ("MacroReckonerModel", TMo, 23)) hK hP hD hS hA XN_ok trivial [0, 1, 2, 3, 4, 5, 6, 7, 8, 9, 10, 11, 12, 13] rfl rfl 0 rfl rfl) rfl rfl hl.1 rfl (lv_room (Nat.le_of_ble_eq_true rfl)) dMo_remainder_105 ⟨Nat.zero_le _, Nat.zero_le _⟩) hP hD hS hA [0, 1, 2, 3, 4, 5, 6, 7, 8, 9, 10, 11, 12, 13] [] rfl (fun v_ => wMo dA mo ft lf hg kk tx pn tk fm tO tl mI mT mS mC mL mB mF mU mX mP mK v_.1 v_.2 []) (fun _ => rfl) ([] : va_W) rfl (fun _ => rfl) [mo, mo + 1, mo + 2, mo + 3, mo + 4, mo + 5, mo + 6, mo + 7, mo + 8, mo + 9, mo + 10, mo + 11, mo + 12, mo + 13] rfl (fun _ => rfl) (fun _ => rfl) (fun u_ H locs hq105 hP hD hS => ?_)
      obtain ⟨D1_105, Z1_105⟩ := u_
      have hP : va_P (dC, dI) vwCl (wMo dA mo ft lf hg kk tx pn tk fm tO tl mI mT mS mC mL mB mF mU mX mP mK D1_105 Z1_105 []) H := hP
      have hD : va_D A (wMo dA mo ft lf hg kk tx pn tk fm tO tl mI mT mS mC mL mB mF mU mX mP mK D1_105 Z1_105 []) := hD
      have hq105 : ((((t9 - kk) - (mC y)) < 0 ∧ MR D1_105 Z1_105 0 ((ab xa.v * PW 10 (max xa.sc (kk + yb.sc) - xa.sc) / (ab yb.v * PW 10 (max xa.sc (kk + yb.sc) - (kk + yb.sc))) * ab yb.v) * 10 + 0)) ∨ (0 ≤ ((t9 - kk) - (mC y)) ∧ MR D1_105 Z1_105 0 ((ab xa.v * PW 10 (max xa.sc (kk + yb.sc) - xa.sc) / (ab yb.v * PW 10 (max xa.sc (kk + yb.sc) - (kk + yb.sc))) * ab yb.v) * PW 10 ((t9 - kk) - (mC y))))) ∧ others D1_86 Z1_86 D1_105 Z1_105 0 := hq105
      have hB9 := (hq105.1.resolve_left (fun z => by omega)).2
      rw [show t9 - kk - mC y = max xa.sc (kk + yb.sc) - (kk + yb.sc) by omega, hrm.2.2.1] at hB9
      refine lv_aload_n hx hb dMo_remainder_108 rfl (lv_at hl 1 rfl) ?_
      refine lv_iconst (v := iI 1) hx hb dMo_remainder_109 rfl ?_
      refine lv_iload_n hx hb dMo_remainder_110 rfl (lv_at hl 2 rfl) ?_
      refine lv_iload_n hx hb dMo_remainder_111 rfl (lv_at hl 0 rfl) ?_
      refine lv_aload_n hx hb dMo_remainder_112 rfl (lv_at hl 1 rfl) ?_
      refine va_get (D := (dC, dI)) (ci := 7) (v := .ref (mo + 4)) (C := "MacroReckonerModel") (T := TMo) (N := 23) hx hb hts inMo hown hK hP 0 rfl rfl 5 (by decide) (hts _ wt4_63) (fun _ h9 => h9) rfl dMo_remainder_113 ?_
      refine lv_iload_n hx hb dMo_remainder_116 rfl (lv_at hl 2 rfl) ?_
      refine iv_iald hx hb hK hP 4 0 rfl rfl (by decide) dMo_remainder_117 (by omega) (by omega) ?_
      refine iv_isub hx hb dMo_remainder_118 ?_
      refine cv_v (va_runV (C := "MacroReckonerModel") (As := [.int (iI 1), .int (iI x), .int (iI (t9 - (mC x)))]) (rest := []) ⟨hx, hb, hml, hown, hts⟩ (cMo_load l dC dI dA mo ft lf hg kk tx pn tk fm tO tl mI mT mS mC mL mB mF mU mX mP mK D1_105 Z1_105 1 x (t9 - (mC x)) (ab xa.v) (by omega) (by omega) (by exact hTx) H.size) (cwV 3 hts (gdV wt4_226 wt4_228 ws4_10 wt1_8 wt4_229) rfl rfl rfl ⟨rfl, by decide, by decide, by decide +kernel⟩ ⟨by decide, by decide⟩) (preV (q := ("MacroReckonerModel", TMo, 23)) hK hP hD hS hA XN_ok trivial [0, 1, 2, 3, 4, 5, 6, 7, 8, 9, 10, 11, 12, 13] rfl rfl 0 rfl rfl) rfl rfl hl.1 rfl (lv_room (Nat.le_of_ble_eq_true rfl)) dMo_remainder_119 ⟨Nat.zero_le _, Nat.zero_le _⟩) hP hD hS hA [0, 1, 2, 3, 4, 5, 6, 7, 8, 9, 10, 11, 12, 13] [] rfl (fun v_ => wMo dA mo ft lf hg kk tx pn tk fm tO tl mI mT mS mC mL mB mF mU mX mP mK v_.1 v_.2 []) (fun _ => rfl) ([] : va_W) rfl (fun _ => rfl) [mo, mo + 1, mo + 2, mo + 3, mo + 4, mo + 5, mo + 6, mo + 7, mo + 8, mo + 9, mo + 10, mo + 11, mo + 12, mo + 13] rfl (fun _ => rfl) (fun _ => rfl) (fun u_ H locs hq119 hP hD hS => ?_)
      obtain ⟨D1_119, Z1_119⟩ := u_
      have hP : va_P (dC, dI) vwCl (wMo dA mo ft lf hg kk tx pn tk fm tO tl mI mT mS mC mL mB mF mU mX mP mK D1_119 Z1_119 []) H := hP
      have hD : va_D A (wMo dA mo ft lf hg kk tx pn tk fm tO tl mI mT mS mC mL mB mF mU mX mP mK D1_119 Z1_119 []) := hD
      have hq119 : MR D1_119 Z1_119 1 ((ab xa.v) * PW 10 (t9 - (mC x))) ∧ others D1_105 Z1_105 D1_119 Z1_119 1 := hq119
      rw [hCx, hq29] at hq119
      have h0B := MR_o hq119.2 (by decide) hB9
      refine lv_aload_n hx hb dMo_remainder_122 rfl (lv_at hl 1 rfl) ?_
      refine lv_iconst (v := iI 1) hx hb dMo_remainder_123 rfl ?_
      refine lv_iconst (v := iI 0) hx hb dMo_remainder_124 rfl ?_
      refine cv_v (va_runV (C := "MacroReckonerModel") (As := [.int (iI 1), .int (iI 0)]) (rest := []) ⟨hx, hb, hml, hown, hts⟩ (cMo_decrease l dC dI dA mo ft lf hg kk tx pn tk fm tO tl mI mT mS mC mL mB mF mU mX mP mK D1_119 Z1_119 1 0 (ab xa.v * PW 10 (max xa.sc (kk + yb.sc) - xa.sc)) (ab xa.v * PW 10 (max xa.sc (kk + yb.sc) - xa.sc) - ab xa.v * PW 10 (max xa.sc (kk + yb.sc) - xa.sc) % (ab yb.v * PW 10 (max xa.sc (kk + yb.sc) - (kk + yb.sc)))) (by omega) (by exact hq119.1) (by exact h0B) (by exact hrm.2.2.2.1) H.size) (cwV 2 hts (gdV wt5_17 wt5_19 ws5_1 wt1_8 wt5_20) rfl rfl rfl ⟨rfl, by decide, by decide, by decide +kernel⟩ ⟨by decide, by decide⟩) (preV (q := ("MacroReckonerModel", TMo, 23)) hK hP hD hS hA XN_ok trivial [0, 1, 2, 3, 4, 5, 6, 7, 8, 9, 10, 11, 12, 13] rfl rfl 0 rfl rfl) rfl rfl hl.1 rfl (lv_room (Nat.le_of_ble_eq_true rfl)) dMo_remainder_125 ⟨Nat.zero_le _, Nat.zero_le _⟩) hP hD hS hA [0, 1, 2, 3, 4, 5, 6, 7, 8, 9, 10, 11, 12, 13] [] rfl (fun v_ => wMo dA mo ft lf hg kk tx pn tk fm tO tl mI mT mS mC mL mB mF mU mX mP mK v_.1 v_.2 []) (fun _ => rfl) ([] : va_W) rfl (fun _ => rfl) [mo, mo + 1, mo + 2, mo + 3, mo + 4, mo + 5, mo + 6, mo + 7, mo + 8, mo + 9, mo + 10, mo + 11, mo + 12, mo + 13] rfl (fun _ => rfl) (fun _ => rfl) (fun u_ H locs hq125 hP hD hS => ?_)
      obtain ⟨D1_125, Z1_125⟩ := u_
      have hP : va_P (dC, dI) vwCl (wMo dA mo ft lf hg kk tx pn tk fm tO tl mI mT mS mC mL mB mF mU mX mP mK D1_125 Z1_125 []) H := hP
      have hD : va_D A (wMo dA mo ft lf hg kk tx pn tk fm tO tl mI mT mS mC mL mB mF mU mX mP mK D1_125 Z1_125 []) := hD
      have hq125 : MR D1_125 Z1_125 1 ((ab xa.v * PW 10 (max xa.sc (kk + yb.sc) - xa.sc)) - (ab xa.v * PW 10 (max xa.sc (kk + yb.sc) - xa.sc) - ab xa.v * PW 10 (max xa.sc (kk + yb.sc) - xa.sc) % (ab yb.v * PW 10 (max xa.sc (kk + yb.sc) - (kk + yb.sc))))) ∧ others D1_119 Z1_119 D1_125 Z1_125 1 := hq125
      have hR9 := hq125.1
      rw [show ab xa.v * PW 10 (max xa.sc (kk + yb.sc) - xa.sc) - (ab xa.v * PW 10 (max xa.sc (kk + yb.sc) - xa.sc) - ab xa.v * PW 10 (max xa.sc (kk + yb.sc) - xa.sc) % (ab yb.v * PW 10 (max xa.sc (kk + yb.sc) - (kk + yb.sc)))) = ab xa.v * PW 10 (max xa.sc (kk + yb.sc) - xa.sc) % (ab yb.v * PW 10 (max xa.sc (kk + yb.sc) - (kk + yb.sc))) by omega] at hR9
      refine lv_aload_n hx hb dMo_remainder_128 rfl (lv_at hl 1 rfl) ?_
      refine lv_iconst (v := iI 1) hx hb dMo_remainder_129 rfl ?_
      refine lv_aload_n hx hb dMo_remainder_130 rfl (lv_at hl 1 rfl) ?_
      refine va_get (D := (dC, dI)) (ci := 7) (v := .ref (mo + 3)) (C := "MacroReckonerModel") (T := TMo) (N := 23) hx hb hts inMo hown hK hP 0 rfl rfl 4 (by decide) (hts _ wt4_62) (fun _ h9 => h9) rfl dMo_remainder_131 ?_
      refine lv_iload_n hx hb dMo_remainder_134 rfl (lv_at hl 2 rfl) ?_
      refine iv_iald hx hb hK hP 3 0 rfl rfl (by decide) dMo_remainder_135 (by omega) (by omega) ?_
      refine lv_iload_n hx hb dMo_remainder_136 rfl (lv_at hl 0 rfl) ?_
      refine cv_i (va_runV (C := "MacroReckonerModel") (As := [.int (iI 1), .int (iI (mS x)), .int (iI t9)]) (rest := []) ⟨hx, hb, hml, hown, hts⟩ (cMo_make l dC dI dA mo ft lf hg kk tx pn tk fm tO tl mI mT mS mC mL mB mF mU mX mP mK D1_125 Z1_125 1 (mS x) t9 (ab xa.v * PW 10 (max xa.sc (kk + yb.sc) - xa.sc) % (ab yb.v * PW 10 (max xa.sc (kk + yb.sc) - (kk + yb.sc)))) (szn xa.v (ab xa.v * PW 10 (max xa.sc (kk + yb.sc) - xa.sc) % (ab yb.v * PW 10 (max xa.sc (kk + yb.sc) - (kk + yb.sc))))) (by omega) (by exact hR9) (by have hss := hSx; unfold sgs at hss; rcases hss with ⟨s1, s2⟩ | ⟨s1, s2⟩ | ⟨s1, s2⟩; exact Or.inr (Or.inr ⟨s1, by rw [s2, show ab 0 = 0 from rfl, Int.zero_mul, Int.zero_emod]⟩); exact Or.inl s1; exact Or.inr (Or.inl s1)) (by omega) (by exact sm_sz hSx) H.size) (cwV 3 hts (gdV wt4_195 wt4_197 ws4_3 wt1_8 wt4_198) rfl rfl rfl ⟨rfl, by decide, by decide, by decide +kernel⟩ ⟨by decide, by decide⟩) (preV (q := ("MacroReckonerModel", TMo, 23)) hK hP hD hS hA XN_ok trivial [0, 1, 2, 3, 4, 5, 6, 7, 8, 9, 10, 11, 12, 13] rfl rfl 0 rfl rfl) rfl rfl hl.1 rfl (lv_room (Nat.le_of_ble_eq_true rfl)) dMo_remainder_137 ⟨Nat.zero_le _, Nat.zero_le _⟩) hP hD hS hA [0, 1, 2, 3, 4, 5, 6, 7, 8, 9, 10, 11, 12, 13] [] rfl (fun v_ => wMo dA mo ft lf hg kk tx pn tk fm tO tl mI v_.1 v_.2.1 v_.2.2.1 v_.2.2.2.1 v_.2.2.2.2 mF mU mX mP mK D1_125 Z1_125 []) (fun _ => rfl) ([] : va_W) rfl (fun _ => rfl) [mo, mo + 1, mo + 2, mo + 3, mo + 4, mo + 5, mo + 6, mo + 7, mo + 8, mo + 9, mo + 10, mo + 11, mo + 12, mo + 13] rfl (fun _ => rfl) (fun _ => rfl) (fun r137 u_ H locs hq137 hP hD hS => ?_)
      obtain ⟨T1_137, S1_137, C1_137, L1_137, B1_137⟩ := u_
      have hP : va_P (dC, dI) vwCl (wMo dA mo ft lf hg kk tx pn tk fm tO tl mI T1_137 S1_137 C1_137 L1_137 B1_137 mF mU mX mP mK D1_125 Z1_125 []) H := hP
      have hD : va_D A (wMo dA mo ft lf hg kk tx pn tk fm tO tl mI T1_137 S1_137 C1_137 L1_137 B1_137 mF mU mX mP mK D1_125 Z1_125 []) := hD
      have hq137 : mres r137 (szn xa.v (ab xa.v * PW 10 (max xa.sc (kk + yb.sc) - xa.sc) % (ab yb.v * PW 10 (max xa.sc (kk + yb.sc) - (kk + yb.sc))))) t9 T1_137 S1_137 C1_137 L1_137 B1_137 ∧ thO mT mS mC mL mB T1_137 S1_137 C1_137 L1_137 B1_137 46 := hq137
      exact rt_i hx hb hr hlocks hK hS dMo_remainder_140 (T1_137, S1_137, C1_137, L1_137, B1_137, D1_125, Z1_125) hP hD (show ((yb.v = 0 ∧ r137 = -5) ∨ (yb.v ≠ 0 ∧ 40 < max xa.sc (kk + yb.sc) ∧ r137 = -7) ∨ (yb.v ≠ 0 ∧ max xa.sc (kk + yb.sc) ≤ 40 ∧ mres r137 (szn xa.v (ab xa.v * PW 10 (max xa.sc (kk + yb.sc) - xa.sc) % (ab yb.v * PW 10 (max xa.sc (kk + yb.sc) - (kk + yb.sc))))) (max xa.sc (kk + yb.sc)) T1_137 S1_137 C1_137 L1_137 B1_137)) ∧ thO mT mS mC mL mB T1_137 S1_137 C1_137 L1_137 B1_137 46 from by rw [hq29] at hq137; exact ⟨Or.inr (Or.inr ⟨hyp.1, by omega, hq137.1⟩), hq137.2⟩)
    · refine lv_bipush (v := iI (-7)) hx hb dMo_remainder_39 (by decide) ?_
      exact rt_i hx hb hr hlocks hK hS dMo_remainder_41 (mT, mS, mC, mL, mB, mD, mZ) hP hD (show ((yb.v = 0 ∧ (-7) = -5) ∨ (yb.v ≠ 0 ∧ 40 < max xa.sc (kk + yb.sc) ∧ (-7) = -7) ∨ (yb.v ≠ 0 ∧ max xa.sc (kk + yb.sc) ≤ 40 ∧ mres (-7) (szn xa.v (ab xa.v * PW 10 (max xa.sc (kk + yb.sc) - xa.sc) % (ab yb.v * PW 10 (max xa.sc (kk + yb.sc) - (kk + yb.sc))))) (max xa.sc (kk + yb.sc)) mT mS mC mL mB)) ∧ thO mT mS mC mL mB mT mS mC mL mB 46 from by exact ⟨Or.inr (Or.inl ⟨hyp.1, by omega, rfl⟩), thO_r⟩)
  · refine lv_bipush (v := iI (-5)) hx hb dMo_remainder_9 (by decide) ?_
    exact rt_i hx hb hr hlocks hK hS dMo_remainder_11 (mT, mS, mC, mL, mB, mD, mZ) hP hD (show ((yb.v = 0 ∧ (-5) = -5) ∨ (yb.v ≠ 0 ∧ 40 < max xa.sc (kk + yb.sc) ∧ (-5) = -7) ∨ (yb.v ≠ 0 ∧ max xa.sc (kk + yb.sc) ≤ 40 ∧ mres (-5) (szn xa.v (ab xa.v * PW 10 (max xa.sc (kk + yb.sc) - xa.sc) % (ab yb.v * PW 10 (max xa.sc (kk + yb.sc) - (kk + yb.sc))))) (max xa.sc (kk + yb.sc)) mT mS mC mL mB)) ∧ thO mT mS mC mL mB mT mS mC mL mB 46 from by refine ⟨Or.inl ⟨?_, rfl⟩, thO_r⟩; unfold sgs at hSy; omega)
