theorem dMo_takes_0 : decode prog_9_method_45_code 0 = .ok (.iload_n 0, 1) := by decide +kernel
theorem dMo_takes_1 : decode prog_9_method_45_code 1 = .ok (.tableswitch 365 37 122 #[359, 365, 365, 365, 365, 359, 359, 365, 359, 365, 359, 365, 365, 365, 365, 365, 365, 365, 365, 365, 365, 365, 365, 365, 365, 365, 365, 365, 365, 365, 365, 365, 365, 365, 365, 365, 365, 365, 363, 365, 365, 365, 365, 365, 365, 365, 365, 365, 365, 365, 365, 361, 365, 361, 365, 365, 365, 359, 365, 365, 365, 365, 363, 361, 365, 363, 365, 365, 365, 365, 361, 365, 365, 361, 365, 361, 363, 359, 365, 365, 365, 361, 365, 361, 365, 363], 359) := by decide +kernel
theorem dMo_takes_360 : decode prog_9_method_45_code 360 = .ok (.iconst 2, 1) := by decide +kernel
theorem dMo_takes_361 : decode prog_9_method_45_code 361 = .ok (.ireturn, 1) := by decide +kernel
theorem dMo_takes_362 : decode prog_9_method_45_code 362 = .ok (.iconst 1, 1) := by decide +kernel
theorem dMo_takes_363 : decode prog_9_method_45_code 363 = .ok (.ireturn, 1) := by decide +kernel
theorem dMo_takes_364 : decode prog_9_method_45_code 364 = .ok (.iconst 0, 1) := by decide +kernel
theorem dMo_takes_365 : decode prog_9_method_45_code 365 = .ok (.ireturn, 1) := by decide +kernel
theorem dMo_takes_366 : decode prog_9_method_45_code 366 = .ok (.iconst (-1), 1) := by decide +kernel
theorem dMo_takes_367 : decode prog_9_method_45_code 367 = .ok (.ireturn, 1) := by decide +kernel
abbrev qMo_takes (dC : Nat → ClassId) (dI : Nat → Nat → Nat) (dA : Nat → ClassId) (c0 : Int) (A : Nat → Prop) : Array Value → State → Outcome → State → Prop := QI (dC, dI) vwCl (tyA dA) (fun (r : Int) (v_ : Unit) => tkR c0 r) (fun (v_ : Unit) => ([] : va_W)) A
abbrev rmMo_takes : Room := { frames := 0, cells := 0, slots := 0, locals := 0 }
set_option maxRecDepth 100000 in
set_option maxHeartbeats 1000000 in
theorem cMo_takes (l : Launch) (dC : Nat → ClassId) (dI : Nat → Nat → Nat) (dA : Nat → ClassId) (c0 : Int) (hc0 : 0 ≤ c0 ∧ c0 < 65536) (sz : Nat) : Met l yMo_takes wsMo_takes rmMo_takes (PC (dC, dI) vwCl (tyA dA) XN [.int (iI c0)] (([] : va_W)) sz) (qMo_takes dC dI dA c0 (va_A (([] : va_W)) sz)) 0 0 (va_A (([] : va_W)) sz) := by
  refine met_of (cc := prog_9_method_45_code) (maxL := 1) (ret := (some .int)) (Qc := qMo_takes dC dI dA c0) XN_ok (by decide) rfl (Nat.le_of_ble_eq_true rfl) ?_
  intro p e s m below meth c ls A hx hb hr hml hown hts hlocks hnm hK hP hD hA hX hS hl
  have hl : lv_has ls 1 [(0, .int (iI c0))] := hl
  have hown : s.vm.findClass "MacroReckonerModel" = some m.cls := hown
  obtain ⟨H, hH⟩ : ∃ H : Heap, H = s.heap := ⟨_, rfl⟩
  obtain ⟨locs, hlo⟩ : ∃ L : List Loc, L = [] := ⟨_, rfl⟩
  have hP : va_P (dC, dI) vwCl (([] : va_W)) H := hH ▸ hP
  have hS : va_S A s.heap H locs := by rw [hH, hlo]; exact hS
  suffices hgo : W p l e rmMo_takes s m [.int (iI c0)].toArray below meth c H locs 0 0 (MQ below (qMo_takes dC dI dA c0 A) [.int (iI c0)].toArray s 0 0 A) (F0 m 0 ls []) by rw [hH, hlo] at hgo; exact hgo
  clear hH hlo
  refine lv_iload_n hx hb dMo_takes_0 rfl (lv_at hl 0 rfl) ?_
  by_cases hs1_360 : c0 = 37 ∨ c0 = 42 ∨ c0 = 43 ∨ c0 = 45 ∨ c0 = 47 ∨ c0 = 94 ∨ c0 = 114
  · refine lv_tableIn (off := 359) (tgt := 360) hx hb dMo_takes_1 (by rw [iI_toInt ⟨by omega, by omega⟩]; omega) (by rw [iI_toInt ⟨by omega, by omega⟩]; omega) (by rw [iI_toInt ⟨by omega, by omega⟩]; rcases hs1_360 with hk | hk | hk | hk | hk | hk | hk <;> (rw [hk]; rfl)) (by decide) ?_
    refine lv_iconst (v := iI 2) hx hb dMo_takes_360 rfl ?_
    exact rt_i hx hb hr hlocks hK hS dMo_takes_361 () hP hD (show tkR c0 2 from by unfold tkR; omega)
  by_cases hs1_364 : c0 = 75 ∨ c0 = 99 ∨ c0 = 102 ∨ c0 = 113 ∨ c0 = 122
  · refine lv_tableIn (off := 363) (tgt := 364) hx hb dMo_takes_1 (by rw [iI_toInt ⟨by omega, by omega⟩]; omega) (by rw [iI_toInt ⟨by omega, by omega⟩]; omega) (by rw [iI_toInt ⟨by omega, by omega⟩]; rcases hs1_364 with hk | hk | hk | hk | hk <;> (rw [hk]; rfl)) (by decide) ?_
    refine lv_iconst (v := iI 0) hx hb dMo_takes_364 rfl ?_
    exact rt_i hx hb hr hlocks hK hS dMo_takes_365 () hP hD (show tkR c0 0 from by unfold tkR; omega)
  by_cases hs1_362 : c0 = 88 ∨ c0 = 90 ∨ c0 = 100 ∨ c0 = 107 ∨ c0 = 110 ∨ c0 = 112 ∨ c0 = 118 ∨ c0 = 120
  · refine lv_tableIn (off := 361) (tgt := 362) hx hb dMo_takes_1 (by rw [iI_toInt ⟨by omega, by omega⟩]; omega) (by rw [iI_toInt ⟨by omega, by omega⟩]; omega) (by rw [iI_toInt ⟨by omega, by omega⟩]; rcases hs1_362 with hk | hk | hk | hk | hk | hk | hk | hk <;> (rw [hk]; rfl)) (by decide) ?_
    refine lv_iconst (v := iI 1) hx hb dMo_takes_362 rfl ?_
    exact rt_i hx hb hr hlocks hK hS dMo_takes_363 () hP hD (show tkR c0 1 from by unfold tkR; omega)
  by_cases hsd1 : c0 < 37 ∨ 122 < c0
  · refine lv_tableOut (tgt := 366) hx hb dMo_takes_1 (by rw [iI_toInt ⟨by omega, by omega⟩]; omega) (by decide) ?_
    refine lv_iconst (v := iI (-1)) hx hb dMo_takes_366 rfl ?_
    exact rt_i hx hb hr hlocks hK hS dMo_takes_367 () hP hD (show tkR c0 (-1) from by unfold tkR; omega)
  have hse1 : c0 = 38 ∨ c0 = 39 ∨ c0 = 40 ∨ c0 = 41 ∨ c0 = 44 ∨ c0 = 46 ∨ c0 = 48 ∨ c0 = 49 ∨ c0 = 50 ∨ c0 = 51 ∨ c0 = 52 ∨ c0 = 53 ∨ c0 = 54 ∨ c0 = 55 ∨ c0 = 56 ∨ c0 = 57 ∨ c0 = 58 ∨ c0 = 59 ∨ c0 = 60 ∨ c0 = 61 ∨ c0 = 62 ∨ c0 = 63 ∨ c0 = 64 ∨ c0 = 65 ∨ c0 = 66 ∨ c0 = 67 ∨ c0 = 68 ∨ c0 = 69 ∨ c0 = 70 ∨ c0 = 71 ∨ c0 = 72 ∨ c0 = 73 ∨ c0 = 74 ∨ c0 = 76 ∨ c0 = 77 ∨ c0 = 78 ∨ c0 = 79 ∨ c0 = 80 ∨ c0 = 81 ∨ c0 = 82 ∨ c0 = 83 ∨ c0 = 84 ∨ c0 = 85 ∨ c0 = 86 ∨ c0 = 87 ∨ c0 = 89 ∨ c0 = 91 ∨ c0 = 92 ∨ c0 = 93 ∨ c0 = 95 ∨ c0 = 96 ∨ c0 = 97 ∨ c0 = 98 ∨ c0 = 101 ∨ c0 = 103 ∨ c0 = 104 ∨ c0 = 105 ∨ c0 = 106 ∨ c0 = 108 ∨ c0 = 109 ∨ c0 = 111 ∨ c0 = 115 ∨ c0 = 116 ∨ c0 = 117 ∨ c0 = 119 ∨ c0 = 121 := by omega
  refine lv_tableIn (off := 365) (tgt := 366) hx hb dMo_takes_1 (by rw [iI_toInt ⟨by omega, by omega⟩]; omega) (by rw [iI_toInt ⟨by omega, by omega⟩]; omega) (by rw [iI_toInt ⟨by omega, by omega⟩]; rcases hse1 with hk | hk | hk | hk | hk | hk | hk | hk | hk | hk | hk | hk | hk | hk | hk | hk | hk | hk | hk | hk | hk | hk | hk | hk | hk | hk | hk | hk | hk | hk | hk | hk | hk | hk | hk | hk | hk | hk | hk | hk | hk | hk | hk | hk | hk | hk | hk | hk | hk | hk | hk | hk | hk | hk | hk | hk | hk | hk | hk | hk | hk | hk | hk | hk | hk | hk <;> (rw [hk]; rfl)) (by decide) ?_
  refine lv_iconst (v := iI (-1)) hx hb dMo_takes_366 rfl ?_
  exact rt_i hx hb hr hlocks hK hS dMo_takes_367 () hP hD (show tkR c0 (-1) from by unfold tkR; omega)

theorem dMo_reckon_0 : decode prog_9_method_47_code 0 = .ok (.iload_n 1, 1) := by decide +kernel
theorem dMo_reckon_1 : decode prog_9_method_47_code 1 = .ok (.lookupswitch 114 #[(37, 100), (42, 86), (43, 59), (45, 72), (47, 93), (94, 107)], 59) := by decide +kernel
theorem dMo_reckon_60 : decode prog_9_method_47_code 60 = .ok (.aload_n 0, 1) := by decide +kernel
theorem dMo_reckon_61 : decode prog_9_method_47_code 61 = .ok (.iload_n 2, 1) := by decide +kernel
theorem dMo_reckon_62 : decode prog_9_method_47_code 62 = .ok (.iload_n 3, 1) := by decide +kernel
theorem dMo_reckon_63 : decode prog_9_method_47_code 63 = .ok (.aload_n 0, 1) := by decide +kernel
theorem dMo_reckon_64 : decode prog_9_method_47_code 64 = .ok (.getfield 17, 3) := by decide +kernel
theorem dMo_reckon_67 : decode prog_9_method_47_code 67 = .ok (.iload_n 3, 1) := by decide +kernel
theorem dMo_reckon_68 : decode prog_9_method_47_code 68 = .ok (.iaload, 1) := by decide +kernel
theorem dMo_reckon_69 : decode prog_9_method_47_code 69 = .ok (.invokevirtual 187, 3) := by decide +kernel
theorem dMo_reckon_72 : decode prog_9_method_47_code 72 = .ok (.ireturn, 1) := by decide +kernel
theorem dMo_reckon_73 : decode prog_9_method_47_code 73 = .ok (.aload_n 0, 1) := by decide +kernel
theorem dMo_reckon_74 : decode prog_9_method_47_code 74 = .ok (.iload_n 2, 1) := by decide +kernel
theorem dMo_reckon_75 : decode prog_9_method_47_code 75 = .ok (.iload_n 3, 1) := by decide +kernel
theorem dMo_reckon_76 : decode prog_9_method_47_code 76 = .ok (.aload_n 0, 1) := by decide +kernel
theorem dMo_reckon_77 : decode prog_9_method_47_code 77 = .ok (.getfield 17, 3) := by decide +kernel
theorem dMo_reckon_80 : decode prog_9_method_47_code 80 = .ok (.iload_n 3, 1) := by decide +kernel
theorem dMo_reckon_81 : decode prog_9_method_47_code 81 = .ok (.iaload, 1) := by decide +kernel
theorem dMo_reckon_82 : decode prog_9_method_47_code 82 = .ok (.ineg, 1) := by decide +kernel
theorem dMo_reckon_83 : decode prog_9_method_47_code 83 = .ok (.invokevirtual 187, 3) := by decide +kernel
theorem dMo_reckon_86 : decode prog_9_method_47_code 86 = .ok (.ireturn, 1) := by decide +kernel
theorem dMo_reckon_87 : decode prog_9_method_47_code 87 = .ok (.aload_n 0, 1) := by decide +kernel
theorem dMo_reckon_88 : decode prog_9_method_47_code 88 = .ok (.iload_n 2, 1) := by decide +kernel
theorem dMo_reckon_89 : decode prog_9_method_47_code 89 = .ok (.iload_n 3, 1) := by decide +kernel
theorem dMo_reckon_90 : decode prog_9_method_47_code 90 = .ok (.invokevirtual 190, 3) := by decide +kernel
theorem dMo_reckon_93 : decode prog_9_method_47_code 93 = .ok (.ireturn, 1) := by decide +kernel
theorem dMo_reckon_94 : decode prog_9_method_47_code 94 = .ok (.aload_n 0, 1) := by decide +kernel
theorem dMo_reckon_95 : decode prog_9_method_47_code 95 = .ok (.iload_n 2, 1) := by decide +kernel
theorem dMo_reckon_96 : decode prog_9_method_47_code 96 = .ok (.iload_n 3, 1) := by decide +kernel
theorem dMo_reckon_97 : decode prog_9_method_47_code 97 = .ok (.invokevirtual 193, 3) := by decide +kernel
theorem dMo_reckon_100 : decode prog_9_method_47_code 100 = .ok (.ireturn, 1) := by decide +kernel
theorem dMo_reckon_101 : decode prog_9_method_47_code 101 = .ok (.aload_n 0, 1) := by decide +kernel
theorem dMo_reckon_102 : decode prog_9_method_47_code 102 = .ok (.iload_n 2, 1) := by decide +kernel
theorem dMo_reckon_103 : decode prog_9_method_47_code 103 = .ok (.iload_n 3, 1) := by decide +kernel
theorem dMo_reckon_104 : decode prog_9_method_47_code 104 = .ok (.invokevirtual 196, 3) := by decide +kernel
theorem dMo_reckon_107 : decode prog_9_method_47_code 107 = .ok (.ireturn, 1) := by decide +kernel
theorem dMo_reckon_108 : decode prog_9_method_47_code 108 = .ok (.aload_n 0, 1) := by decide +kernel
theorem dMo_reckon_109 : decode prog_9_method_47_code 109 = .ok (.iload_n 2, 1) := by decide +kernel
theorem dMo_reckon_110 : decode prog_9_method_47_code 110 = .ok (.iload_n 3, 1) := by decide +kernel
theorem dMo_reckon_111 : decode prog_9_method_47_code 111 = .ok (.invokevirtual 199, 3) := by decide +kernel
theorem dMo_reckon_114 : decode prog_9_method_47_code 114 = .ok (.ireturn, 1) := by decide +kernel
theorem dMo_reckon_115 : decode prog_9_method_47_code 115 = .ok (.aload_n 0, 1) := by decide +kernel
theorem dMo_reckon_116 : decode prog_9_method_47_code 116 = .ok (.iload_n 2, 1) := by decide +kernel
theorem dMo_reckon_117 : decode prog_9_method_47_code 117 = .ok (.invokevirtual 202, 3) := by decide +kernel
theorem dMo_reckon_120 : decode prog_9_method_47_code 120 = .ok (.ireturn, 1) := by decide +kernel
abbrev qMo_reckon (dC : Nat → ClassId) (dI : Nat → Nat → Nat) (dA : Nat → ClassId) (mo : Nat) (ft : Int) (lf : Int) (hg : Int) (kk : Int) (tx : Int) (pn : Int) (tk : Int) (fm : Int) (tO : Int) (tl : Int) (mI : Int → Int) (mT : Int → Int) (mS : Int → Int) (mC : Int → Int) (mL : Int → Int) (mB : Int → Int) (mF : Int → Int) (mU : Int → Int) (mX : Int → Int) (mP : Int → Int) (mK : Int → Int) (mD : Int → Int) (mZ : Int → Int) (c0 : Int) (x : Int) (y : Int) (xa : Th) (yb : Th) (A : Nat → Prop) : Array Value → State → Outcome → State → Prop := QI (dC, dI) vwCl (tyA dA) (fun (r : Int) (v_ : (Int → Int) × (Int → Int) × (Int → Int) × (Int → Int) × (Int → Int) × (Int → Int) × (Int → Int)) => rkR r (if c0 = 118 then rooA kk xa else rkA c0 kk xa yb) v_.1 v_.2.1 v_.2.2.1 v_.2.2.2.1 v_.2.2.2.2.1 ∧ thO mT mS mC mL mB v_.1 v_.2.1 v_.2.2.1 v_.2.2.2.1 v_.2.2.2.2.1 46) (fun (v_ : (Int → Int) × (Int → Int) × (Int → Int) × (Int → Int) × (Int → Int) × (Int → Int) × (Int → Int)) => wMo dA mo ft lf hg kk tx pn tk fm tO tl mI v_.1 v_.2.1 v_.2.2.1 v_.2.2.2.1 v_.2.2.2.2.1 mF mU mX mP mK v_.2.2.2.2.2.1 v_.2.2.2.2.2.2 []) A
abbrev rmMo_reckon : Room := { frames := 4, cells := 0, slots := 0, locals := 95 }
set_option maxRecDepth 100000 in
set_option maxHeartbeats 1000000 in
theorem cMo_reckon (l : Launch) (dC : Nat → ClassId) (dI : Nat → Nat → Nat) (dA : Nat → ClassId) (mo : Nat) (ft : Int) (lf : Int) (hg : Int) (kk : Int) (tx : Int) (pn : Int) (tk : Int) (fm : Int) (tO : Int) (tl : Int) (mI : Int → Int) (mT : Int → Int) (mS : Int → Int) (mC : Int → Int) (mL : Int → Int) (mB : Int → Int) (mF : Int → Int) (mU : Int → Int) (mX : Int → Int) (mP : Int → Int) (mK : Int → Int) (mD : Int → Int) (mZ : Int → Int) (c0 : Int) (x : Int) (y : Int) (xa : Th) (yb : Th) (hc0 : c0 = 43 ∨ c0 = 45 ∨ c0 = 42 ∨ c0 = 47 ∨ c0 = 37 ∨ c0 = 94 ∨ c0 = 118) (hxy : 0 ≤ x ∧ x ≤ 46 ∧ 0 ≤ y ∧ y ≤ 46) (hTa : MT mT mS mC mL mB x xa) (hta : xa.t = 0) (hTb : MT mT mS mC mL mB y yb) (htb : yb.t = 0) (hkk : 0 ≤ kk ∧ kk ≤ 40) (sz : Nat) : Met l yMo_reckon wsMo_reckon rmMo_reckon (PC (dC, dI) vwCl (tyA dA) XN [.ref mo, .int (iI c0), .int (iI x), .int (iI y)] (wMo dA mo ft lf hg kk tx pn tk fm tO tl mI mT mS mC mL mB mF mU mX mP mK mD mZ []) sz) (qMo_reckon dC dI dA mo ft lf hg kk tx pn tk fm tO tl mI mT mS mC mL mB mF mU mX mP mK mD mZ c0 x y xa yb (va_A (wMo dA mo ft lf hg kk tx pn tk fm tO tl mI mT mS mC mL mB mF mU mX mP mK mD mZ []) sz)) 0 0 (va_A (wMo dA mo ft lf hg kk tx pn tk fm tO tl mI mT mS mC mL mB mF mU mX mP mK mD mZ []) sz) := by
  refine met_of (cc := prog_9_method_47_code) (maxL := 4) (ret := (some .int)) (Qc := qMo_reckon dC dI dA mo ft lf hg kk tx pn tk fm tO tl mI mT mS mC mL mB mF mU mX mP mK mD mZ c0 x y xa yb) XN_ok (by decide) rfl (Nat.le_of_ble_eq_true rfl) ?_
  intro p e s m below meth c ls A hx hb hr hml hown hts hlocks hnm hK hP hD hA hX hS hl
  have hl : lv_has ls 4 [(0, .ref mo), (1, .int (iI c0)), (2, .int (iI x)), (3, .int (iI y))] := hl
  have hown : s.vm.findClass "MacroReckonerModel" = some m.cls := hown
  obtain ⟨H, hH⟩ : ∃ H : Heap, H = s.heap := ⟨_, rfl⟩
  obtain ⟨locs, hlo⟩ : ∃ L : List Loc, L = [] := ⟨_, rfl⟩
  have hP : va_P (dC, dI) vwCl (wMo dA mo ft lf hg kk tx pn tk fm tO tl mI mT mS mC mL mB mF mU mX mP mK mD mZ []) H := hH ▸ hP
  have hS : va_S A s.heap H locs := by rw [hH, hlo]; exact hS
  suffices hgo : W p l e rmMo_reckon s m [.ref mo, .int (iI c0), .int (iI x), .int (iI y)].toArray below meth c H locs 0 0 (MQ below (qMo_reckon dC dI dA mo ft lf hg kk tx pn tk fm tO tl mI mT mS mC mL mB mF mU mX mP mK mD mZ c0 x y xa yb A) [.ref mo, .int (iI c0), .int (iI x), .int (iI y)].toArray s 0 0 A) (F0 m 0 ls []) by rw [hH, hlo] at hgo; exact hgo
  clear hH hlo
  have hSy := (MT_n hTb htb).2.2.2
  have hby := MT_b hTb
  refine lv_iload_n hx hb dMo_reckon_0 rfl (lv_at hl 1 rfl) ?_
  by_cases hs1_101 : c0 = 37
  · refine lv_lookup (off := 100) (tgt := 101) hx hb dMo_reckon_1 (by decide) (by rw [iI_toInt ⟨by omega, by omega⟩]; show Op.lookupswitch.offset [(37, 100), (42, 86), (43, 59), (45, 72), (47, 93), (94, 107)] 114 c0 = 100; rw [hs1_101]; rfl) (by decide) ?_
    refine lv_aload_n hx hb dMo_reckon_101 rfl (lv_at hl 0 rfl) ?_
    refine lv_iload_n hx hb dMo_reckon_102 rfl (lv_at hl 2 rfl) ?_
    refine lv_iload_n hx hb dMo_reckon_103 rfl (lv_at hl 3 rfl) ?_
    refine cv_i (va_runV (C := "MacroReckonerModel") (As := [.int (iI x), .int (iI y)]) (rest := []) ⟨hx, hb, hml, hown, hts⟩ (cMo_remainder l dC dI dA mo ft lf hg kk tx pn tk fm tO tl mI mT mS mC mL mB mF mU mX mP mK mD mZ x y xa yb (by exact hxy) (by exact hTa) (by exact hta) (by exact hTb) (by exact htb) (by exact hkk) H.size) (cwV 2 hts (gdV wt5_41 wt5_43 ws5_7 wt1_8 wt5_44) rfl rfl rfl ⟨rfl, by decide, by decide, by decide +kernel⟩ ⟨by decide, by decide⟩) (preV (q := ("MacroReckonerModel", TMo, 23)) hK hP hD hS hA XN_ok trivial [0, 1, 2, 3, 4, 5, 6, 7, 8, 9, 10, 11, 12, 13] rfl rfl 0 rfl rfl) rfl rfl hl.1 rfl (lv_room (Nat.le_of_ble_eq_true rfl)) dMo_reckon_104 ⟨Nat.zero_le _, Nat.zero_le _⟩) hP hD hS hA [0, 1, 2, 3, 4, 5, 6, 7, 8, 9, 10, 11, 12, 13] [] rfl (fun v_ => wMo dA mo ft lf hg kk tx pn tk fm tO tl mI v_.1 v_.2.1 v_.2.2.1 v_.2.2.2.1 v_.2.2.2.2.1 mF mU mX mP mK v_.2.2.2.2.2.1 v_.2.2.2.2.2.2 []) (fun _ => rfl) ([] : va_W) rfl (fun _ => rfl) [mo, mo + 1, mo + 2, mo + 3, mo + 4, mo + 5, mo + 6, mo + 7, mo + 8, mo + 9, mo + 10, mo + 11, mo + 12, mo + 13] rfl (fun _ => rfl) (fun _ => rfl) (fun r104 u_ H locs hq104 hP hD hS => ?_)
    obtain ⟨T1_104, S1_104, C1_104, L1_104, B1_104, D1_104, Z1_104⟩ := u_
    have hP : va_P (dC, dI) vwCl (wMo dA mo ft lf hg kk tx pn tk fm tO tl mI T1_104 S1_104 C1_104 L1_104 B1_104 mF mU mX mP mK D1_104 Z1_104 []) H := hP
    have hD : va_D A (wMo dA mo ft lf hg kk tx pn tk fm tO tl mI T1_104 S1_104 C1_104 L1_104 B1_104 mF mU mX mP mK D1_104 Z1_104 []) := hD
    have hq104 : ((yb.v = 0 ∧ r104 = -5) ∨ (yb.v ≠ 0 ∧ 40 < max xa.sc (kk + yb.sc) ∧ r104 = -7) ∨ (yb.v ≠ 0 ∧ max xa.sc (kk + yb.sc) ≤ 40 ∧ mres r104 (szn xa.v (ab xa.v * PW 10 (max xa.sc (kk + yb.sc) - xa.sc) % (ab yb.v * PW 10 (max xa.sc (kk + yb.sc) - (kk + yb.sc))))) (max xa.sc (kk + yb.sc)) T1_104 S1_104 C1_104 L1_104 B1_104)) ∧ thO mT mS mC mL mB T1_104 S1_104 C1_104 L1_104 B1_104 46 := hq104
    exact rt_i hx hb hr hlocks hK hS dMo_reckon_107 (T1_104, S1_104, C1_104, L1_104, B1_104, D1_104, Z1_104) hP hD (show rkR r104 (if c0 = 118 then rooA kk xa else rkA c0 kk xa yb) T1_104 S1_104 C1_104 L1_104 B1_104 ∧ thO mT mS mC mL mB T1_104 S1_104 C1_104 L1_104 B1_104 46 from by rw [if_neg (by omega), rkA_e.2.2.2.2.1 (by omega)]; exact ⟨rk_mod hq104.1, hq104.2⟩)
  by_cases hs1_87 : c0 = 42
  · refine lv_lookup (off := 86) (tgt := 87) hx hb dMo_reckon_1 (by decide) (by rw [iI_toInt ⟨by omega, by omega⟩]; show Op.lookupswitch.offset [(37, 100), (42, 86), (43, 59), (45, 72), (47, 93), (94, 107)] 114 c0 = 86; rw [hs1_87]; rfl) (by decide) ?_
    refine lv_aload_n hx hb dMo_reckon_87 rfl (lv_at hl 0 rfl) ?_
    refine lv_iload_n hx hb dMo_reckon_88 rfl (lv_at hl 2 rfl) ?_
    refine lv_iload_n hx hb dMo_reckon_89 rfl (lv_at hl 3 rfl) ?_
    refine cv_i (va_runV (C := "MacroReckonerModel") (As := [.int (iI x), .int (iI y)]) (rest := []) ⟨hx, hb, hml, hown, hts⟩ (cMo_times l dC dI dA mo ft lf hg kk tx pn tk fm tO tl mI mT mS mC mL mB mF mU mX mP mK mD mZ x y xa yb (by exact hxy) (by exact hTa) (by exact hta) (by exact hTb) (by exact htb) (by exact hkk) H.size) (cwV 2 hts (gdV wt5_21 wt5_23 ws5_2 wt1_8 wt5_24) rfl rfl rfl ⟨rfl, by decide, by decide, by decide +kernel⟩ ⟨by decide, by decide⟩) (preV (q := ("MacroReckonerModel", TMo, 23)) hK hP hD hS hA XN_ok trivial [0, 1, 2, 3, 4, 5, 6, 7, 8, 9, 10, 11, 12, 13] rfl rfl 0 rfl rfl) rfl rfl hl.1 rfl (lv_room (Nat.le_of_ble_eq_true rfl)) dMo_reckon_90 ⟨Nat.zero_le _, Nat.zero_le _⟩) hP hD hS hA [0, 1, 2, 3, 4, 5, 6, 7, 8, 9, 10, 11, 12, 13] [] rfl (fun v_ => wMo dA mo ft lf hg kk tx pn tk fm tO tl mI v_.1 v_.2.1 v_.2.2.1 v_.2.2.2.1 v_.2.2.2.2.1 mF mU mX mP mK v_.2.2.2.2.2.1 v_.2.2.2.2.2.2 []) (fun _ => rfl) ([] : va_W) rfl (fun _ => rfl) [mo, mo + 1, mo + 2, mo + 3, mo + 4, mo + 5, mo + 6, mo + 7, mo + 8, mo + 9, mo + 10, mo + 11, mo + 12, mo + 13] rfl (fun _ => rfl) (fun _ => rfl) (fun r90 u_ H locs hq90 hP hD hS => ?_)
    obtain ⟨T1_90, S1_90, C1_90, L1_90, B1_90, D1_90, Z1_90⟩ := u_
    have hP : va_P (dC, dI) vwCl (wMo dA mo ft lf hg kk tx pn tk fm tO tl mI T1_90 S1_90 C1_90 L1_90 B1_90 mF mU mX mP mK D1_90 Z1_90 []) H := hP
    have hD : va_D A (wMo dA mo ft lf hg kk tx pn tk fm tO tl mI T1_90 S1_90 C1_90 L1_90 B1_90 mF mU mX mP mK D1_90 Z1_90 []) := hD
    have hq90 : mres r90 (tq (xa.v * yb.v) (PW 10 (xa.sc + yb.sc - min (xa.sc + yb.sc) (max kk (max xa.sc yb.sc))))) (min (xa.sc + yb.sc) (max kk (max xa.sc yb.sc))) T1_90 S1_90 C1_90 L1_90 B1_90 ∧ thO mT mS mC mL mB T1_90 S1_90 C1_90 L1_90 B1_90 46 := hq90
    exact rt_i hx hb hr hlocks hK hS dMo_reckon_93 (T1_90, S1_90, C1_90, L1_90, B1_90, D1_90, Z1_90) hP hD (show rkR r90 (if c0 = 118 then rooA kk xa else rkA c0 kk xa yb) T1_90 S1_90 C1_90 L1_90 B1_90 ∧ thO mT mS mC mL mB T1_90 S1_90 C1_90 L1_90 B1_90 46 from by rw [if_neg (by omega), rkA_e.2.2.1 (by omega)]; exact ⟨mres_f hq90.1, hq90.2⟩)
  by_cases hs1_60 : c0 = 43
  · refine lv_lookup (off := 59) (tgt := 60) hx hb dMo_reckon_1 (by decide) (by rw [iI_toInt ⟨by omega, by omega⟩]; show Op.lookupswitch.offset [(37, 100), (42, 86), (43, 59), (45, 72), (47, 93), (94, 107)] 114 c0 = 59; rw [hs1_60]; rfl) (by decide) ?_
    refine lv_aload_n hx hb dMo_reckon_60 rfl (lv_at hl 0 rfl) ?_
    refine lv_iload_n hx hb dMo_reckon_61 rfl (lv_at hl 2 rfl) ?_
    refine lv_iload_n hx hb dMo_reckon_62 rfl (lv_at hl 3 rfl) ?_
    refine lv_aload_n hx hb dMo_reckon_63 rfl (lv_at hl 0 rfl) ?_
    refine va_get (D := (dC, dI)) (ci := 7) (v := .ref (mo + 3)) (C := "MacroReckonerModel") (T := TMo) (N := 23) hx hb hts inMo hown hK hP 0 rfl rfl 4 (by decide) (hts _ wt4_62) (fun _ h9 => h9) rfl dMo_reckon_64 ?_
    refine lv_iload_n hx hb dMo_reckon_67 rfl (lv_at hl 3 rfl) ?_
    refine iv_iald hx hb hK hP 3 0 rfl rfl (by decide) dMo_reckon_68 (by omega) (by omega) ?_
    refine cv_i (va_runV (C := "MacroReckonerModel") (As := [.int (iI x), .int (iI y), .int (iI (mS y))]) (rest := []) ⟨hx, hb, hml, hown, hts⟩ (cMo_plus l dC dI dA mo ft lf hg kk tx pn tk fm tO tl mI mT mS mC mL mB mF mU mX mP mK mD mZ x y xa yb (mS y) yb.v (by exact hxy) (by exact hTa) (by exact hta) (by exact hTb) (by exact htb) (by exact hSy) (by rfl) H.size) (cwV 3 hts (gdV wt5_9 wt5_11 ws4_15 wt1_8 wt5_12) rfl rfl rfl ⟨rfl, by decide, by decide, by decide +kernel⟩ ⟨by decide, by decide⟩) (preV (q := ("MacroReckonerModel", TMo, 23)) hK hP hD hS hA XN_ok trivial [0, 1, 2, 3, 4, 5, 6, 7, 8, 9, 10, 11, 12, 13] rfl rfl 0 rfl rfl) rfl rfl hl.1 rfl (lv_room (Nat.le_of_ble_eq_true rfl)) dMo_reckon_69 ⟨Nat.zero_le _, Nat.zero_le _⟩) hP hD hS hA [0, 1, 2, 3, 4, 5, 6, 7, 8, 9, 10, 11, 12, 13] [] rfl (fun v_ => wMo dA mo ft lf hg kk tx pn tk fm tO tl mI v_.1 v_.2.1 v_.2.2.1 v_.2.2.2.1 v_.2.2.2.2.1 mF mU mX mP mK v_.2.2.2.2.2.1 v_.2.2.2.2.2.2 []) (fun _ => rfl) ([] : va_W) rfl (fun _ => rfl) [mo, mo + 1, mo + 2, mo + 3, mo + 4, mo + 5, mo + 6, mo + 7, mo + 8, mo + 9, mo + 10, mo + 11, mo + 12, mo + 13] rfl (fun _ => rfl) (fun _ => rfl) (fun r69 u_ H locs hq69 hP hD hS => ?_)
    obtain ⟨T1_69, S1_69, C1_69, L1_69, B1_69, D1_69, Z1_69⟩ := u_
    have hP : va_P (dC, dI) vwCl (wMo dA mo ft lf hg kk tx pn tk fm tO tl mI T1_69 S1_69 C1_69 L1_69 B1_69 mF mU mX mP mK D1_69 Z1_69 []) H := hP
    have hD : va_D A (wMo dA mo ft lf hg kk tx pn tk fm tO tl mI T1_69 S1_69 C1_69 L1_69 B1_69 mF mU mX mP mK D1_69 Z1_69 []) := hD
    have hq69 : mres r69 (xa.v * PW 10 (max xa.sc yb.sc - xa.sc) + yb.v * PW 10 (max xa.sc yb.sc - yb.sc)) (max xa.sc yb.sc) T1_69 S1_69 C1_69 L1_69 B1_69 ∧ thO mT mS mC mL mB T1_69 S1_69 C1_69 L1_69 B1_69 46 := hq69
    exact rt_i hx hb hr hlocks hK hS dMo_reckon_72 (T1_69, S1_69, C1_69, L1_69, B1_69, D1_69, Z1_69) hP hD (show rkR r69 (if c0 = 118 then rooA kk xa else rkA c0 kk xa yb) T1_69 S1_69 C1_69 L1_69 B1_69 ∧ thO mT mS mC mL mB T1_69 S1_69 C1_69 L1_69 B1_69 46 from by rw [if_neg (by omega), rkA_e.1 (by omega)]; exact ⟨mres_f hq69.1, hq69.2⟩)
  by_cases hs1_73 : c0 = 45
  · refine lv_lookup (off := 72) (tgt := 73) hx hb dMo_reckon_1 (by decide) (by rw [iI_toInt ⟨by omega, by omega⟩]; show Op.lookupswitch.offset [(37, 100), (42, 86), (43, 59), (45, 72), (47, 93), (94, 107)] 114 c0 = 72; rw [hs1_73]; rfl) (by decide) ?_
    refine lv_aload_n hx hb dMo_reckon_73 rfl (lv_at hl 0 rfl) ?_
    refine lv_iload_n hx hb dMo_reckon_74 rfl (lv_at hl 2 rfl) ?_
    refine lv_iload_n hx hb dMo_reckon_75 rfl (lv_at hl 3 rfl) ?_
    refine lv_aload_n hx hb dMo_reckon_76 rfl (lv_at hl 0 rfl) ?_
    refine va_get (D := (dC, dI)) (ci := 7) (v := .ref (mo + 3)) (C := "MacroReckonerModel") (T := TMo) (N := 23) hx hb hts inMo hown hK hP 0 rfl rfl 4 (by decide) (hts _ wt4_62) (fun _ h9 => h9) rfl dMo_reckon_77 ?_
    refine lv_iload_n hx hb dMo_reckon_80 rfl (lv_at hl 3 rfl) ?_
    refine iv_iald hx hb hK hP 3 0 rfl rfl (by decide) dMo_reckon_81 (by omega) (by omega) ?_
    refine iv_ineg hx hb dMo_reckon_82 ?_
    refine cv_i (va_runV (C := "MacroReckonerModel") (As := [.int (iI x), .int (iI y), .int (iI (-(mS y)))]) (rest := []) ⟨hx, hb, hml, hown, hts⟩ (cMo_plus l dC dI dA mo ft lf hg kk tx pn tk fm tO tl mI mT mS mC mL mB mF mU mX mP mK mD mZ x y xa yb (-(mS y)) (-yb.v) (by exact hxy) (by exact hTa) (by exact hta) (by exact hTb) (by exact htb) (by have h := hSy; unfold sgs at h ⊢; omega) (by unfold ab; omega) H.size) (cwV 3 hts (gdV wt5_9 wt5_11 ws4_15 wt1_8 wt5_12) rfl rfl rfl ⟨rfl, by decide, by decide, by decide +kernel⟩ ⟨by decide, by decide⟩) (preV (q := ("MacroReckonerModel", TMo, 23)) hK hP hD hS hA XN_ok trivial [0, 1, 2, 3, 4, 5, 6, 7, 8, 9, 10, 11, 12, 13] rfl rfl 0 rfl rfl) rfl rfl hl.1 rfl (lv_room (Nat.le_of_ble_eq_true rfl)) dMo_reckon_83 ⟨Nat.zero_le _, Nat.zero_le _⟩) hP hD hS hA [0, 1, 2, 3, 4, 5, 6, 7, 8, 9, 10, 11, 12, 13] [] rfl (fun v_ => wMo dA mo ft lf hg kk tx pn tk fm tO tl mI v_.1 v_.2.1 v_.2.2.1 v_.2.2.2.1 v_.2.2.2.2.1 mF mU mX mP mK v_.2.2.2.2.2.1 v_.2.2.2.2.2.2 []) (fun _ => rfl) ([] : va_W) rfl (fun _ => rfl) [mo, mo + 1, mo + 2, mo + 3, mo + 4, mo + 5, mo + 6, mo + 7, mo + 8, mo + 9, mo + 10, mo + 11, mo + 12, mo + 13] rfl (fun _ => rfl) (fun _ => rfl) (fun r83 u_ H locs hq83 hP hD hS => ?_)
    obtain ⟨T1_83, S1_83, C1_83, L1_83, B1_83, D1_83, Z1_83⟩ := u_
    have hP : va_P (dC, dI) vwCl (wMo dA mo ft lf hg kk tx pn tk fm tO tl mI T1_83 S1_83 C1_83 L1_83 B1_83 mF mU mX mP mK D1_83 Z1_83 []) H := hP
    have hD : va_D A (wMo dA mo ft lf hg kk tx pn tk fm tO tl mI T1_83 S1_83 C1_83 L1_83 B1_83 mF mU mX mP mK D1_83 Z1_83 []) := hD
    have hq83 : mres r83 (xa.v * PW 10 (max xa.sc yb.sc - xa.sc) + (-yb.v) * PW 10 (max xa.sc yb.sc - yb.sc)) (max xa.sc yb.sc) T1_83 S1_83 C1_83 L1_83 B1_83 ∧ thO mT mS mC mL mB T1_83 S1_83 C1_83 L1_83 B1_83 46 := hq83
    exact rt_i hx hb hr hlocks hK hS dMo_reckon_86 (T1_83, S1_83, C1_83, L1_83, B1_83, D1_83, Z1_83) hP hD (show rkR r83 (if c0 = 118 then rooA kk xa else rkA c0 kk xa yb) T1_83 S1_83 C1_83 L1_83 B1_83 ∧ thO mT mS mC mL mB T1_83 S1_83 C1_83 L1_83 B1_83 46 from by rw [if_neg (by omega), rkA_e.2.1 (by omega)]; exact ⟨mres_f hq83.1, hq83.2⟩)
  by_cases hs1_94 : c0 = 47
  · refine lv_lookup (off := 93) (tgt := 94) hx hb dMo_reckon_1 (by decide) (by rw [iI_toInt ⟨by omega, by omega⟩]; show Op.lookupswitch.offset [(37, 100), (42, 86), (43, 59), (45, 72), (47, 93), (94, 107)] 114 c0 = 93; rw [hs1_94]; rfl) (by decide) ?_
    refine lv_aload_n hx hb dMo_reckon_94 rfl (lv_at hl 0 rfl) ?_
    refine lv_iload_n hx hb dMo_reckon_95 rfl (lv_at hl 2 rfl) ?_
    refine lv_iload_n hx hb dMo_reckon_96 rfl (lv_at hl 3 rfl) ?_
    refine cv_i (va_runV (C := "MacroReckonerModel") (As := [.int (iI x), .int (iI y)]) (rest := []) ⟨hx, hb, hml, hown, hts⟩ (cMo_quotient l dC dI dA mo ft lf hg kk tx pn tk fm tO tl mI mT mS mC mL mB mF mU mX mP mK mD mZ x y xa yb (by exact hxy) (by exact hTa) (by exact hta) (by exact hTb) (by exact htb) (by exact hkk) H.size) (cwV 2 hts (gdV wt5_33 wt5_35 ws5_5 wt1_8 wt5_36) rfl rfl rfl ⟨rfl, by decide, by decide, by decide +kernel⟩ ⟨by decide, by decide⟩) (preV (q := ("MacroReckonerModel", TMo, 23)) hK hP hD hS hA XN_ok trivial [0, 1, 2, 3, 4, 5, 6, 7, 8, 9, 10, 11, 12, 13] rfl rfl 0 rfl rfl) rfl rfl hl.1 rfl (lv_room (Nat.le_of_ble_eq_true rfl)) dMo_reckon_97 ⟨Nat.zero_le _, Nat.zero_le _⟩) hP hD hS hA [0, 1, 2, 3, 4, 5, 6, 7, 8, 9, 10, 11, 12, 13] [] rfl (fun v_ => wMo dA mo ft lf hg kk tx pn tk fm tO tl mI v_.1 v_.2.1 v_.2.2.1 v_.2.2.2.1 v_.2.2.2.2.1 mF mU mX mP mK v_.2.2.2.2.2.1 v_.2.2.2.2.2.2 []) (fun _ => rfl) ([] : va_W) rfl (fun _ => rfl) [mo, mo + 1, mo + 2, mo + 3, mo + 4, mo + 5, mo + 6, mo + 7, mo + 8, mo + 9, mo + 10, mo + 11, mo + 12, mo + 13] rfl (fun _ => rfl) (fun _ => rfl) (fun r97 u_ H locs hq97 hP hD hS => ?_)
    obtain ⟨T1_97, S1_97, C1_97, L1_97, B1_97, D1_97, Z1_97⟩ := u_
    have hP : va_P (dC, dI) vwCl (wMo dA mo ft lf hg kk tx pn tk fm tO tl mI T1_97 S1_97 C1_97 L1_97 B1_97 mF mU mX mP mK D1_97 Z1_97 []) H := hP
    have hD : va_D A (wMo dA mo ft lf hg kk tx pn tk fm tO tl mI T1_97 S1_97 C1_97 L1_97 B1_97 mF mU mX mP mK D1_97 Z1_97 []) := hD
    have hq97 : ((yb.v = 0 ∧ r97 = -5) ∨ (yb.v ≠ 0 ∧ mres r97 (szn (xa.v * yb.v) (ab xa.v * PW 10 (max xa.sc (kk + yb.sc) - xa.sc) / (ab yb.v * PW 10 (max xa.sc (kk + yb.sc) - (kk + yb.sc))))) kk T1_97 S1_97 C1_97 L1_97 B1_97)) ∧ thO mT mS mC mL mB T1_97 S1_97 C1_97 L1_97 B1_97 46 := hq97
    exact rt_i hx hb hr hlocks hK hS dMo_reckon_100 (T1_97, S1_97, C1_97, L1_97, B1_97, D1_97, Z1_97) hP hD (show rkR r97 (if c0 = 118 then rooA kk xa else rkA c0 kk xa yb) T1_97 S1_97 C1_97 L1_97 B1_97 ∧ thO mT mS mC mL mB T1_97 S1_97 C1_97 L1_97 B1_97 46 from by rw [if_neg (by omega), rkA_e.2.2.2.1 (by omega)]; exact ⟨rk_div hq97.1, hq97.2⟩)
  by_cases hs1_108 : c0 = 94
  · refine lv_lookup (off := 107) (tgt := 108) hx hb dMo_reckon_1 (by decide) (by rw [iI_toInt ⟨by omega, by omega⟩]; show Op.lookupswitch.offset [(37, 100), (42, 86), (43, 59), (45, 72), (47, 93), (94, 107)] 114 c0 = 107; rw [hs1_108]; rfl) (by decide) ?_
    refine lv_aload_n hx hb dMo_reckon_108 rfl (lv_at hl 0 rfl) ?_
    refine lv_iload_n hx hb dMo_reckon_109 rfl (lv_at hl 2 rfl) ?_
    refine lv_iload_n hx hb dMo_reckon_110 rfl (lv_at hl 3 rfl) ?_
    refine cv_i (va_runV (C := "MacroReckonerModel") (As := [.int (iI x), .int (iI y)]) (rest := []) ⟨hx, hb, hml, hown, hts⟩ (cMo_power l dC dI dA mo ft lf hg kk tx pn tk fm tO tl mI mT mS mC mL mB mF mU mX mP mK mD mZ x y xa yb (by exact hxy) (by exact hTa) (by exact hta) (by exact hTb) (by exact htb) (by exact hkk) H.size) (cwV 2 hts (gdV wt5_45 wt5_47 ws5_8 wt1_8 wt5_48) rfl rfl rfl ⟨rfl, by decide, by decide, by decide +kernel⟩ ⟨by decide, by decide⟩) (preV (q := ("MacroReckonerModel", TMo, 23)) hK hP hD hS hA XN_ok trivial [0, 1, 2, 3, 4, 5, 6, 7, 8, 9, 10, 11, 12, 13] rfl rfl 0 rfl rfl) rfl rfl hl.1 rfl (lv_room (Nat.le_of_ble_eq_true rfl)) dMo_reckon_111 ⟨Nat.zero_le _, Nat.zero_le _⟩) hP hD hS hA [0, 1, 2, 3, 4, 5, 6, 7, 8, 9, 10, 11, 12, 13] [] rfl (fun v_ => wMo dA mo ft lf hg kk tx pn tk fm tO tl mI v_.1 v_.2.1 v_.2.2.1 v_.2.2.2.1 v_.2.2.2.2.1 mF mU mX mP mK v_.2.2.2.2.2.1 v_.2.2.2.2.2.2 []) (fun _ => rfl) ([] : va_W) rfl (fun _ => rfl) [mo, mo + 1, mo + 2, mo + 3, mo + 4, mo + 5, mo + 6, mo + 7, mo + 8, mo + 9, mo + 10, mo + 11, mo + 12, mo + 13] rfl (fun _ => rfl) (fun _ => rfl) (fun r111 u_ H locs hq111 hP hD hS => ?_)
    obtain ⟨T1_111, S1_111, C1_111, L1_111, B1_111, D1_111, Z1_111⟩ := u_
    have hP : va_P (dC, dI) vwCl (wMo dA mo ft lf hg kk tx pn tk fm tO tl mI T1_111 S1_111 C1_111 L1_111 B1_111 mF mU mX mP mK D1_111 Z1_111 []) H := hP
    have hD : va_D A (wMo dA mo ft lf hg kk tx pn tk fm tO tl mI T1_111 S1_111 C1_111 L1_111 B1_111 mF mU mX mP mK D1_111 Z1_111 []) := hD
    have hq111 : (((0 < yb.sc ∨ 100 ≤ ab yb.v) ∧ r111 = -4) ∨ (yb.sc = 0 ∧ ab yb.v < 100 ∧ ((yb.v < 0 ∧ xa.v = 0 ∧ r111 = -5) ∨ (¬ (yb.v < 0 ∧ xa.v = 0) ∧ (((200 < ab yb.v * xa.sc ∨ PW 10 200 ≤ PW (ab xa.v) (ab yb.v)) ∧ r111 = -7) ∨ (ab yb.v * xa.sc ≤ 200 ∧ PW (ab xa.v) (ab yb.v) < PW 10 200 ∧ ((yb.v < 0 ∧ mres r111 (szn (if ab yb.v % 2 = 1 then xa.v else 1) (PW 10 (ab yb.v * xa.sc + kk) / PW (ab xa.v) (ab yb.v))) kk T1_111 S1_111 C1_111 L1_111 B1_111) ∨ (0 ≤ yb.v ∧ mres r111 (szn (if ab yb.v % 2 = 1 then xa.v else 1) (PW (ab xa.v) (ab yb.v) / PW 10 (ab yb.v * xa.sc - min (ab yb.v * xa.sc) (max kk xa.sc)))) (min (ab yb.v * xa.sc) (max kk xa.sc)) T1_111 S1_111 C1_111 L1_111 B1_111)))))))) ∧ thO mT mS mC mL mB T1_111 S1_111 C1_111 L1_111 B1_111 46 := hq111
    exact rt_i hx hb hr hlocks hK hS dMo_reckon_114 (T1_111, S1_111, C1_111, L1_111, B1_111, D1_111, Z1_111) hP hD (show rkR r111 (if c0 = 118 then rooA kk xa else rkA c0 kk xa yb) T1_111 S1_111 C1_111 L1_111 B1_111 ∧ thO mT mS mC mL mB T1_111 S1_111 C1_111 L1_111 B1_111 46 from by rw [if_neg (by omega), rkA_e.2.2.2.2.2 (by omega)]; exact ⟨rk_pow hq111.1, hq111.2⟩)
  refine lv_lookup (off := 114) (tgt := 115) hx hb dMo_reckon_1 (by decide) (by rw [iI_toInt ⟨by omega, by omega⟩]; show Op.lookupswitch.offset [(37, 100), (42, 86), (43, 59), (45, 72), (47, 93), (94, 107)] 114 c0 = 114; simp only [Op.lookupswitch.offset_cons, Op.lookupswitch.offset_nil]; (first | rw [if_neg (by omega)] | simp); (first | rw [if_neg (by omega)] | simp); (first | rw [if_neg (by omega)] | simp); (first | rw [if_neg (by omega)] | simp); (first | rw [if_neg (by omega)] | simp); (first | rw [if_neg (by omega)] | simp)) (by decide) ?_
  refine lv_aload_n hx hb dMo_reckon_115 rfl (lv_at hl 0 rfl) ?_
  refine lv_iload_n hx hb dMo_reckon_116 rfl (lv_at hl 2 rfl) ?_
  refine cv_i (va_runV (C := "MacroReckonerModel") (As := [.int (iI x)]) (rest := []) ⟨hx, hb, hml, hown, hts⟩ (cMo_rootOf l dC dI dA mo ft lf hg kk tx pn tk fm tO tl mI mT mS mC mL mB mF mU mX mP mK mD mZ x xa (by omega) (by exact hTa) (by exact hta) (by exact hkk) H.size) (cwV 1 hts (gdV wt5_61 wt5_63 ws5_12 wt1_8 wt5_64) rfl rfl rfl ⟨rfl, by decide, by decide, by decide +kernel⟩ ⟨by decide, by decide⟩) (preV (q := ("MacroReckonerModel", TMo, 23)) hK hP hD hS hA XN_ok trivial [0, 1, 2, 3, 4, 5, 6, 7, 8, 9, 10, 11, 12, 13] rfl rfl 0 rfl rfl) rfl rfl hl.1 rfl (lv_room (Nat.le_of_ble_eq_true rfl)) dMo_reckon_117 ⟨Nat.zero_le _, Nat.zero_le _⟩) hP hD hS hA [0, 1, 2, 3, 4, 5, 6, 7, 8, 9, 10, 11, 12, 13] [] rfl (fun v_ => wMo dA mo ft lf hg kk tx pn tk fm tO tl mI v_.1 v_.2.1 v_.2.2.1 v_.2.2.2.1 v_.2.2.2.2.1 mF mU mX mP mK v_.2.2.2.2.2.1 v_.2.2.2.2.2.2 []) (fun _ => rfl) ([] : va_W) rfl (fun _ => rfl) [mo, mo + 1, mo + 2, mo + 3, mo + 4, mo + 5, mo + 6, mo + 7, mo + 8, mo + 9, mo + 10, mo + 11, mo + 12, mo + 13] rfl (fun _ => rfl) (fun _ => rfl) (fun r117 u_ H locs hq117 hP hD hS => ?_)
  obtain ⟨T1_117, S1_117, C1_117, L1_117, B1_117, D1_117, Z1_117⟩ := u_
  have hP : va_P (dC, dI) vwCl (wMo dA mo ft lf hg kk tx pn tk fm tO tl mI T1_117 S1_117 C1_117 L1_117 B1_117 mF mU mX mP mK D1_117 Z1_117 []) H := hP
  have hD : va_D A (wMo dA mo ft lf hg kk tx pn tk fm tO tl mI T1_117 S1_117 C1_117 L1_117 B1_117 mF mU mX mP mK D1_117 Z1_117 []) := hD
  have hq117 : ((xa.v < 0 ∧ r117 = -6) ∨ (0 ≤ xa.v ∧ ∃ rt, isq rt (xa.v * PW 10 (2 * max kk xa.sc - xa.sc)) ∧ mres r117 rt (max kk xa.sc) T1_117 S1_117 C1_117 L1_117 B1_117)) ∧ thO mT mS mC mL mB T1_117 S1_117 C1_117 L1_117 B1_117 46 := hq117
  exact rt_i hx hb hr hlocks hK hS dMo_reckon_120 (T1_117, S1_117, C1_117, L1_117, B1_117, D1_117, Z1_117) hP hD (show rkR r117 (if c0 = 118 then rooA kk xa else rkA c0 kk xa yb) T1_117 S1_117 C1_117 L1_117 B1_117 ∧ thO mT mS mC mL mB T1_117 S1_117 C1_117 L1_117 B1_117 46 from by rw [if_pos (by omega)]; exact ⟨rk_roo hq117.1, hq117.2⟩)

theorem dMo_setScale_0 : decode prog_9_method_48_code 0 = .ok (.aload_n 0, 1) := by decide +kernel
theorem dMo_setScale_1 : decode prog_9_method_48_code 1 = .ok (.iload_n 1, 1) := by decide +kernel
theorem dMo_setScale_2 : decode prog_9_method_48_code 2 = .ok (.invokevirtual 107, 3) := by decide +kernel
theorem dMo_setScale_5 : decode prog_9_method_48_code 5 = .ok (.istore_n 2, 1) := by decide +kernel
theorem dMo_setScale_6 : decode prog_9_method_48_code 6 = .ok (.iload_n 2, 1) := by decide +kernel
theorem dMo_setScale_7 : decode prog_9_method_48_code 7 = .ok (.ifCond .lt 9, 3) := by decide +kernel
theorem dMo_setScale_10 : decode prog_9_method_48_code 10 = .ok (.iload_n 2, 1) := by decide +kernel
theorem dMo_setScale_11 : decode prog_9_method_48_code 11 = .ok (.bipush 40, 2) := by decide +kernel
theorem dMo_setScale_13 : decode prog_9_method_48_code 13 = .ok (.if_icmp .le 6, 3) := by decide +kernel
theorem dMo_setScale_16 : decode prog_9_method_48_code 16 = .ok (.bipush (-4), 2) := by decide +kernel
theorem dMo_setScale_18 : decode prog_9_method_48_code 18 = .ok (.ireturn, 1) := by decide +kernel
theorem dMo_setScale_19 : decode prog_9_method_48_code 19 = .ok (.aload_n 0, 1) := by decide +kernel
theorem dMo_setScale_20 : decode prog_9_method_48_code 20 = .ok (.iload_n 2, 1) := by decide +kernel
theorem dMo_setScale_21 : decode prog_9_method_48_code 21 = .ok (.putfield 98, 3) := by decide +kernel
theorem dMo_setScale_24 : decode prog_9_method_48_code 24 = .ok (.aload_n 0, 1) := by decide +kernel
theorem dMo_setScale_25 : decode prog_9_method_48_code 25 = .ok (.dup, 1) := by decide +kernel
theorem dMo_setScale_26 : decode prog_9_method_48_code 26 = .ok (.getfield 83, 3) := by decide +kernel
theorem dMo_setScale_29 : decode prog_9_method_48_code 29 = .ok (.iconst 1, 1) := by decide +kernel
theorem dMo_setScale_30 : decode prog_9_method_48_code 30 = .ok (.isub, 1) := by decide +kernel
theorem dMo_setScale_31 : decode prog_9_method_48_code 31 = .ok (.putfield 83, 3) := by decide +kernel
theorem dMo_setScale_34 : decode prog_9_method_48_code 34 = .ok (.iconst 0, 1) := by decide +kernel
theorem dMo_setScale_35 : decode prog_9_method_48_code 35 = .ok (.ireturn, 1) := by decide +kernel
abbrev qMo_setScale (dC : Nat → ClassId) (dI : Nat → Nat → Nat) (dA : Nat → ClassId) (mo : Nat) (ft : Int) (lf : Int) (hg : Int) (kk : Int) (tx : Int) (pn : Int) (tk : Int) (fm : Int) (tO : Int) (tl : Int) (mI : Int → Int) (mT : Int → Int) (mS : Int → Int) (mC : Int → Int) (mL : Int → Int) (mB : Int → Int) (mF : Int → Int) (mU : Int → Int) (mX : Int → Int) (mP : Int → Int) (mK : Int → Int) (mD : Int → Int) (mZ : Int → Int) (x : Int) (xa : Th) (A : Nat → Prop) : Array Value → State → Outcome → State → Prop := QI (dC, dI) vwCl (tyA dA) (fun (r : Int) (v_ : Int × Int) => (r = -4 ∧ v_.1 = kk ∧ v_.2 = hg ∧ (xa.sc ≠ 0 ∨ xa.v < 0 ∨ 40 < xa.v)) ∨ (r = 0 ∧ v_.1 = xa.v ∧ v_.2 = hg - 1 ∧ ¬ (xa.sc ≠ 0 ∨ xa.v < 0 ∨ 40 < xa.v))) (fun (v_ : Int × Int) => wMo dA mo ft lf v_.2 v_.1 tx pn tk fm tO tl mI mT mS mC mL mB mF mU mX mP mK mD mZ []) A
abbrev rmMo_setScale : Room := { frames := 1, cells := 0, slots := 0, locals := 23 }
set_option maxRecDepth 100000 in
set_option maxHeartbeats 1000000 in
theorem cMo_setScale (l : Launch) (dC : Nat → ClassId) (dI : Nat → Nat → Nat) (dA : Nat → ClassId) (mo : Nat) (ft : Int) (lf : Int) (hg : Int) (kk : Int) (tx : Int) (pn : Int) (tk : Int) (fm : Int) (tO : Int) (tl : Int) (mI : Int → Int) (mT : Int → Int) (mS : Int → Int) (mC : Int → Int) (mL : Int → Int) (mB : Int → Int) (mF : Int → Int) (mU : Int → Int) (mX : Int → Int) (mP : Int → Int) (mK : Int → Int) (mD : Int → Int) (mZ : Int → Int) (x : Int) (xa : Th) (hxy : 0 ≤ x ∧ x ≤ 46) (hTa : MT mT mS mC mL mB x xa) (hta : xa.t = 0) (hh9 : 1 ≤ hg ∧ hg ≤ 20) (sz : Nat) : Met l yMo_setScale wsMo_setScale rmMo_setScale (PC (dC, dI) vwCl (tyA dA) XN [.ref mo, .int (iI x)] (wMo dA mo ft lf hg kk tx pn tk fm tO tl mI mT mS mC mL mB mF mU mX mP mK mD mZ []) sz) (qMo_setScale dC dI dA mo ft lf hg kk tx pn tk fm tO tl mI mT mS mC mL mB mF mU mX mP mK mD mZ x xa (va_A (wMo dA mo ft lf hg kk tx pn tk fm tO tl mI mT mS mC mL mB mF mU mX mP mK mD mZ []) sz)) 0 0 (va_A (wMo dA mo ft lf hg kk tx pn tk fm tO tl mI mT mS mC mL mB mF mU mX mP mK mD mZ []) sz) := by
  refine met_of (cc := prog_9_method_48_code) (maxL := 3) (ret := (some .int)) (Qc := qMo_setScale dC dI dA mo ft lf hg kk tx pn tk fm tO tl mI mT mS mC mL mB mF mU mX mP mK mD mZ x xa) XN_ok (by decide) rfl (Nat.le_of_ble_eq_true rfl) ?_
  intro p e s m below meth c ls A hx hb hr hml hown hts hlocks hnm hK hP hD hA hX hS hl
  have hl : lv_has ls 3 [(0, .ref mo), (1, .int (iI x))] := hl
  have hown : s.vm.findClass "MacroReckonerModel" = some m.cls := hown
  obtain ⟨H, hH⟩ : ∃ H : Heap, H = s.heap := ⟨_, rfl⟩
  obtain ⟨locs, hlo⟩ : ∃ L : List Loc, L = [] := ⟨_, rfl⟩
  have hP : va_P (dC, dI) vwCl (wMo dA mo ft lf hg kk tx pn tk fm tO tl mI mT mS mC mL mB mF mU mX mP mK mD mZ []) H := hH ▸ hP
  have hS : va_S A s.heap H locs := by rw [hH, hlo]; exact hS
  suffices hgo : W p l e rmMo_setScale s m [.ref mo, .int (iI x)].toArray below meth c H locs 0 0 (MQ below (qMo_setScale dC dI dA mo ft lf hg kk tx pn tk fm tO tl mI mT mS mC mL mB mF mU mX mP mK mD mZ x xa A) [.ref mo, .int (iI x)].toArray s 0 0 A) (F0 m 0 ls []) by rw [hH, hlo] at hgo; exact hgo
  clear hH hlo
  have hbx := MT_b hTa
  refine lv_aload_n hx hb dMo_setScale_0 rfl (lv_at hl 0 rfl) ?_
  refine lv_iload_n hx hb dMo_setScale_1 rfl (lv_at hl 1 rfl) ?_
  refine cv_i (va_runV (C := "MacroReckonerModel") (As := [.int (iI x)]) (rest := []) ⟨hx, hb, hml, hown, hts⟩ (cMo_small l dC dI dA mo ft lf hg kk tx pn tk fm tO tl mI mT mS mC mL mB mF mU mX mP mK mD mZ x xa (by exact hxy) (by exact hTa) (by exact hta) H.size) (cwV 1 hts (gdV wt5_49 wt5_51 ws5_9 wt1_8 wt5_52) rfl rfl rfl ⟨rfl, by decide, by decide, by decide +kernel⟩ ⟨by decide, by decide⟩) (preV (q := ("MacroReckonerModel", TMo, 23)) hK hP hD hS hA XN_ok trivial [0, 1, 2, 3, 4, 5, 6, 7, 8, 9, 10, 11, 12, 13] rfl rfl 0 rfl rfl) rfl rfl hl.1 rfl (lv_room (Nat.le_of_ble_eq_true rfl)) dMo_setScale_2 ⟨Nat.zero_le _, Nat.zero_le _⟩) hP hD hS hA [0, 1, 2, 3, 4, 5, 6, 7, 8, 9, 10, 11, 12, 13] [] rfl (fun v_ => wMo dA mo ft lf hg kk tx pn tk fm tO tl mI mT mS mC mL mB mF mU mX mP mK mD mZ []) (fun _ => rfl) ([] : va_W) rfl (fun _ => rfl) [mo, mo + 1, mo + 2, mo + 3, mo + 4, mo + 5, mo + 6, mo + 7, mo + 8, mo + 9, mo + 10, mo + 11, mo + 12, mo + 13] rfl (fun _ => rfl) (fun _ => rfl) (fun v9 u_ H locs hq2 hP hD hS => ?_)
  have hP : va_P (dC, dI) vwCl (wMo dA mo ft lf hg kk tx pn tk fm tO tl mI mT mS mC mL mB mF mU mX mP mK mD mZ []) H := hP
  have hD : va_D A (wMo dA mo ft lf hg kk tx pn tk fm tO tl mI mT mS mC mL mB mF mU mX mP mK mD mZ []) := hD
  have hq2 : (v9 = 100 ∧ (0 < xa.sc ∨ 100 ≤ ab xa.v)) ∨ (xa.sc = 0 ∧ ab xa.v < 100 ∧ v9 = xa.v) := hq2
  unfold ab at hq2
  refine lv_istore_n (lv' := [(2, .int (iI v9)), (0, .ref mo), (1, .int (iI x))]) hx hb dMo_setScale_5 rfl hl (by decide) rfl (fun ls hl => ?_)
  refine lv_iload_n hx hb dMo_setScale_6 rfl (lv_at hl 0 rfl) ?_
  refine iv_if_lt (tgt := 16) hx hb dMo_setScale_7 (by decide) ⟨by omega, by omega⟩ (fun hc7 => ?_) (fun hc7 => ?_)
  · refine lv_bipush (v := iI (-4)) hx hb dMo_setScale_16 (by decide) ?_
    exact rt_i hx hb hr hlocks hK hS dMo_setScale_18 (kk, hg) hP hD (show ((-4) = -4 ∧ kk = kk ∧ hg = hg ∧ (xa.sc ≠ 0 ∨ xa.v < 0 ∨ 40 < xa.v)) ∨ ((-4) = 0 ∧ kk = xa.v ∧ hg = hg - 1 ∧ ¬ (xa.sc ≠ 0 ∨ xa.v < 0 ∨ 40 < xa.v)) from by exact Or.inl ⟨rfl, rfl, rfl, by omega⟩)
  · refine lv_iload_n hx hb dMo_setScale_10 rfl (lv_at hl 0 rfl) ?_
    refine lv_bipush (v := iI 40) hx hb dMo_setScale_11 (by decide) ?_
    refine iv_icmp_le (tgt := 19) hx hb dMo_setScale_13 (by decide) ⟨by omega, by omega⟩ ⟨by decide, by decide⟩ (fun hc13 => ?_) (fun hc13 => ?_)
    · refine lv_aload_n hx hb dMo_setScale_19 rfl (lv_at hl 1 rfl) ?_
      refine lv_iload_n hx hb dMo_setScale_20 rfl (lv_at hl 0 rfl) ?_
      refine va_put (D := (dC, dI)) (ci := 7) (v := .int (iI v9)) (ty := .int) (C := "MacroReckonerModel") (T := TMo) (N := 23) hx hb hts inMo tyMo tyMo_ok nmMo hown hK hP hD hS 0 rfl rfl 9 (by decide) (hts _ wt4_67) (fun _ h9 => h9) rfl (by decide +kernel) rfl rfl (Nat.le_of_ble_eq_true rfl) dMo_setScale_21 (fun H locs hP hD hS => ?_)
      have hP : va_P (dC, dI) vwCl (wMo dA mo ft lf hg v9 tx pn tk fm tO tl mI mT mS mC mL mB mF mU mX mP mK mD mZ []) H := hP
      have hD : va_D A (wMo dA mo ft lf hg v9 tx pn tk fm tO tl mI mT mS mC mL mB mF mU mX mP mK mD mZ []) := hD
      refine lv_aload_n hx hb dMo_setScale_24 rfl (lv_at hl 1 rfl) ?_
      refine lv_dup hx hb dMo_setScale_25 rfl ?_
      refine va_get (D := (dC, dI)) (ci := 7) (v := .int (iI hg)) (C := "MacroReckonerModel") (T := TMo) (N := 23) hx hb hts inMo hown hK hP 0 rfl rfl 8 (by decide) (hts _ wt4_66) (fun _ h9 => h9) rfl dMo_setScale_26 ?_
      refine lv_iconst (v := iI 1) hx hb dMo_setScale_29 rfl ?_
      refine iv_isub hx hb dMo_setScale_30 ?_
      refine va_put (D := (dC, dI)) (ci := 7) (v := .int (iI (hg - 1))) (ty := .int) (C := "MacroReckonerModel") (T := TMo) (N := 23) hx hb hts inMo tyMo tyMo_ok nmMo hown hK hP hD hS 0 rfl rfl 8 (by decide) (hts _ wt4_66) (fun _ h9 => h9) rfl (by decide +kernel) rfl rfl (Nat.le_of_ble_eq_true rfl) dMo_setScale_31 (fun H locs hP hD hS => ?_)
      have hP : va_P (dC, dI) vwCl (wMo dA mo ft lf (hg - 1) v9 tx pn tk fm tO tl mI mT mS mC mL mB mF mU mX mP mK mD mZ []) H := hP
      have hD : va_D A (wMo dA mo ft lf (hg - 1) v9 tx pn tk fm tO tl mI mT mS mC mL mB mF mU mX mP mK mD mZ []) := hD
      refine lv_iconst (v := iI 0) hx hb dMo_setScale_34 rfl ?_
      exact rt_i hx hb hr hlocks hK hS dMo_setScale_35 (v9, hg - 1) hP hD (show (0 = -4 ∧ v9 = kk ∧ (hg - 1) = hg ∧ (xa.sc ≠ 0 ∨ xa.v < 0 ∨ 40 < xa.v)) ∨ (0 = 0 ∧ v9 = xa.v ∧ (hg - 1) = hg - 1 ∧ ¬ (xa.sc ≠ 0 ∨ xa.v < 0 ∨ 40 < xa.v)) from by exact Or.inr ⟨rfl, by omega, rfl, by omega⟩)
    · refine lv_bipush (v := iI (-4)) hx hb dMo_setScale_16 (by decide) ?_
      exact rt_i hx hb hr hlocks hK hS dMo_setScale_18 (kk, hg) hP hD (show ((-4) = -4 ∧ kk = kk ∧ hg = hg ∧ (xa.sc ≠ 0 ∨ xa.v < 0 ∨ 40 < xa.v)) ∨ ((-4) = 0 ∧ kk = xa.v ∧ hg = hg - 1 ∧ ¬ (xa.sc ≠ 0 ∨ xa.v < 0 ∨ 40 < xa.v)) from by exact Or.inl ⟨rfl, rfl, rfl, by omega⟩)

theorem dMo_runTop_0 : decode prog_9_method_49_code 0 = .ok (.aload_n 0, 1) := by decide +kernel
theorem dMo_runTop_1 : decode prog_9_method_49_code 1 = .ok (.getfield 13, 3) := by decide +kernel
theorem dMo_runTop_4 : decode prog_9_method_49_code 4 = .ok (.iload_n 1, 1) := by decide +kernel
theorem dMo_runTop_5 : decode prog_9_method_49_code 5 = .ok (.baload, 1) := by decide +kernel
theorem dMo_runTop_6 : decode prog_9_method_49_code 6 = .ok (.ifCond .ne 5, 3) := by decide +kernel
theorem dMo_runTop_9 : decode prog_9_method_49_code 9 = .ok (.iconst 0, 1) := by decide +kernel
theorem dMo_runTop_10 : decode prog_9_method_49_code 10 = .ok (.ireturn, 1) := by decide +kernel
theorem dMo_runTop_11 : decode prog_9_method_49_code 11 = .ok (.aload_n 0, 1) := by decide +kernel
theorem dMo_runTop_12 : decode prog_9_method_49_code 12 = .ok (.iload_n 1, 1) := by decide +kernel
theorem dMo_runTop_13 : decode prog_9_method_49_code 13 = .ok (.invokevirtual 205, 3) := by decide +kernel
theorem dMo_runTop_16 : decode prog_9_method_49_code 16 = .ok (.istore_n 2, 1) := by decide +kernel
theorem dMo_runTop_17 : decode prog_9_method_49_code 17 = .ok (.aload_n 0, 1) := by decide +kernel
theorem dMo_runTop_18 : decode prog_9_method_49_code 18 = .ok (.iload_n 2, 1) := by decide +kernel
theorem dMo_runTop_19 : decode prog_9_method_49_code 19 = .ok (.ifCond .ge 10, 3) := by decide +kernel
theorem dMo_runTop_22 : decode prog_9_method_49_code 22 = .ok (.aload_n 0, 1) := by decide +kernel
theorem dMo_runTop_23 : decode prog_9_method_49_code 23 = .ok (.getfield 83, 3) := by decide +kernel
theorem dMo_runTop_26 : decode prog_9_method_49_code 26 = .ok (.goto 9, 3) := by decide +kernel
theorem dMo_runTop_29 : decode prog_9_method_49_code 29 = .ok (.aload_n 0, 1) := by decide +kernel
theorem dMo_runTop_30 : decode prog_9_method_49_code 30 = .ok (.getfield 83, 3) := by decide +kernel
theorem dMo_runTop_33 : decode prog_9_method_49_code 33 = .ok (.iconst 1, 1) := by decide +kernel
theorem dMo_runTop_34 : decode prog_9_method_49_code 34 = .ok (.isub, 1) := by decide +kernel
theorem dMo_runTop_35 : decode prog_9_method_49_code 35 = .ok (.putfield 83, 3) := by decide +kernel
theorem dMo_runTop_38 : decode prog_9_method_49_code 38 = .ok (.iload_n 2, 1) := by decide +kernel
theorem dMo_runTop_39 : decode prog_9_method_49_code 39 = .ok (.ireturn, 1) := by decide +kernel
abbrev qMo_runTop (dC : Nat → ClassId) (dI : Nat → Nat → Nat) (dA : Nat → ClassId) (mo : Nat) (ft : Int) (lf : Int) (hg : Int) (kk : Int) (tx : Int) (pn : Int) (tk : Int) (fm : Int) (tO : Int) (tl : Int) (mI : Int → Int) (mT : Int → Int) (mS : Int → Int) (mC : Int → Int) (mL : Int → Int) (mB : Int → Int) (mF : Int → Int) (mU : Int → Int) (mX : Int → Int) (mP : Int → Int) (mK : Int → Int) (mD : Int → Int) (mZ : Int → Int) (x : Int) (st : AS) (A : Nat → Prop) : Array Value → State → Outcome → State → Prop := QI (dC, dI) vwCl (tyA dA) (fun (r : Int) (v_ : (Int → Int) × (Int → Int) × (Int → Int) × Int × Int) => r = (runA st).1 ∧ v_.2.2.2.2 = (runA st).2.h ∧ MX v_.1 v_.2.1 v_.2.2.1 v_.2.2.2.1 (runA st).2) (fun (v_ : (Int → Int) × (Int → Int) × (Int → Int) × Int × Int) => wMo dA mo ft lf v_.2.2.2.2 kk v_.2.2.2.1 pn tk fm tO tl mI mT mS mC mL mB v_.1 v_.2.1 v_.2.2.1 mP mK mD mZ []) A
abbrev rmMo_runTop : Room := { frames := 1, cells := 0, slots := 0, locals := 23 }
set_option maxRecDepth 100000 in
set_option maxHeartbeats 1000000 in
theorem cMo_runTop (l : Launch) (dC : Nat → ClassId) (dI : Nat → Nat → Nat) (dA : Nat → ClassId) (mo : Nat) (ft : Int) (lf : Int) (hg : Int) (kk : Int) (tx : Int) (pn : Int) (tk : Int) (fm : Int) (tO : Int) (tl : Int) (mI : Int → Int) (mT : Int → Int) (mS : Int → Int) (mC : Int → Int) (mL : Int → Int) (mB : Int → Int) (mF : Int → Int) (mU : Int → Int) (mX : Int → Int) (mP : Int → Int) (mK : Int → Int) (mD : Int → Int) (mZ : Int → Int) (x : Int) (st : AS) (hxy : x = 25 + hg ∧ 1 ≤ hg ∧ hg ≤ 20 ∧ hg = st.h) (hTa : MT mT mS mC mL mB x (st.stk (st.h - 1))) (hMX : MX mF mU mX tx st) (sz : Nat) : Met l yMo_runTop wsMo_runTop rmMo_runTop (PC (dC, dI) vwCl (tyA dA) XN [.ref mo, .int (iI x)] (wMo dA mo ft lf hg kk tx pn tk fm tO tl mI mT mS mC mL mB mF mU mX mP mK mD mZ []) sz) (qMo_runTop dC dI dA mo ft lf hg kk tx pn tk fm tO tl mI mT mS mC mL mB mF mU mX mP mK mD mZ x st (va_A (wMo dA mo ft lf hg kk tx pn tk fm tO tl mI mT mS mC mL mB mF mU mX mP mK mD mZ []) sz)) 0 0 (va_A (wMo dA mo ft lf hg kk tx pn tk fm tO tl mI mT mS mC mL mB mF mU mX mP mK mD mZ []) sz) := by
  refine met_of (cc := prog_9_method_49_code) (maxL := 3) (ret := (some .int)) (Qc := qMo_runTop dC dI dA mo ft lf hg kk tx pn tk fm tO tl mI mT mS mC mL mB mF mU mX mP mK mD mZ x st) XN_ok (by decide) rfl (Nat.le_of_ble_eq_true rfl) ?_
  intro p e s m below meth c ls A hx hb hr hml hown hts hlocks hnm hK hP hD hA hX hS hl
  have hl : lv_has ls 3 [(0, .ref mo), (1, .int (iI x))] := hl
  have hown : s.vm.findClass "MacroReckonerModel" = some m.cls := hown
  obtain ⟨H, hH⟩ : ∃ H : Heap, H = s.heap := ⟨_, rfl⟩
  obtain ⟨locs, hlo⟩ : ∃ L : List Loc, L = [] := ⟨_, rfl⟩
  have hP : va_P (dC, dI) vwCl (wMo dA mo ft lf hg kk tx pn tk fm tO tl mI mT mS mC mL mB mF mU mX mP mK mD mZ []) H := hH ▸ hP
  have hS : va_S A s.heap H locs := by rw [hH, hlo]; exact hS
  suffices hgo : W p l e rmMo_runTop s m [.ref mo, .int (iI x)].toArray below meth c H locs 0 0 (MQ below (qMo_runTop dC dI dA mo ft lf hg kk tx pn tk fm tO tl mI mT mS mC mL mB mF mU mX mP mK mD mZ x st A) [.ref mo, .int (iI x)].toArray s 0 0 A) (F0 m 0 ls []) by rw [hH, hlo] at hgo; exact hgo
  clear hH hlo
  have hbx := MT_b hTa
  refine lv_aload_n hx hb dMo_runTop_0 rfl (lv_at hl 0 rfl) ?_
  refine va_get (D := (dC, dI)) (ci := 7) (v := .ref (mo + 2)) (C := "MacroReckonerModel") (T := TMo) (N := 23) hx hb hts inMo hown hK hP 0 rfl rfl 3 (by decide) (hts _ wt4_61) (fun _ h9 => h9) rfl dMo_runTop_1 ?_
  refine lv_iload_n hx hb dMo_runTop_4 rfl (lv_at hl 1 rfl) ?_
  refine iv_zald hx hb hK hP 2 2 rfl rfl (by decide) dMo_runTop_5 (by omega) (by omega) ?_
  refine iv_if_ne (tgt := 11) hx hb dMo_runTop_6 (by decide) ⟨by omega, by omega⟩ (fun hc6 => ?_) (fun hc6 => ?_)
  · refine lv_aload_n hx hb dMo_runTop_11 rfl (lv_at hl 0 rfl) ?_
    refine lv_iload_n hx hb dMo_runTop_12 rfl (lv_at hl 1 rfl) ?_
    refine cv_i (va_runV (C := "MacroReckonerModel") (As := [.int (iI x)]) (rest := []) ⟨hx, hb, hml, hown, hts⟩ (cMo_begin l dC dI dA mo ft lf hg kk tx pn tk fm tO tl mI mT mS mC mL mB mF mU mX mP mK mD mZ x ((st.stk (st.h - 1))) st (by omega) (by exact hTa) (by exact hMX) H.size) (cwV 1 hts (gdV wt4_234 wt4_236 ws4_12 wt1_8 wt4_237) rfl rfl rfl ⟨rfl, by decide, by decide, by decide +kernel⟩ ⟨by decide, by decide⟩) (preV (q := ("MacroReckonerModel", TMo, 23)) hK hP hD hS hA XN_ok trivial [0, 1, 2, 3, 4, 5, 6, 7, 8, 9, 10, 11, 12, 13] rfl rfl 0 rfl rfl) rfl rfl hl.1 rfl (lv_room (Nat.le_of_ble_eq_true rfl)) dMo_runTop_13 ⟨Nat.zero_le _, Nat.zero_le _⟩) hP hD hS hA [0, 1, 2, 3, 4, 5, 6, 7, 8, 9, 10, 11, 12, 13] [] rfl (fun v_ => wMo dA mo ft lf hg kk v_.2.2.2 pn tk fm tO tl mI mT mS mC mL mB v_.1 v_.2.1 v_.2.2.1 mP mK mD mZ []) (fun _ => rfl) ([] : va_W) rfl (fun _ => rfl) [mo, mo + 1, mo + 2, mo + 3, mo + 4, mo + 5, mo + 6, mo + 7, mo + 8, mo + 9, mo + 10, mo + 11, mo + 12, mo + 13] rfl (fun _ => rfl) (fun _ => rfl) (fun b9 u_ H locs hq13 hP hD hS => ?_)
    obtain ⟨F1_13, U1_13, X1_13, tx1_13⟩ := u_
    have hP : va_P (dC, dI) vwCl (wMo dA mo ft lf hg kk tx1_13 pn tk fm tO tl mI mT mS mC mL mB F1_13 U1_13 X1_13 mP mK mD mZ []) H := hP
    have hD : va_D A (wMo dA mo ft lf hg kk tx1_13 pn tk fm tO tl mI mT mS mC mL mB F1_13 U1_13 X1_13 mP mK mD mZ []) := hD
    have hq13 : b9 = (begA st ((st.stk (st.h - 1)))).1 ∧ MX F1_13 U1_13 X1_13 tx1_13 (begA st ((st.stk (st.h - 1)))).2 := hq13
    have hbc := begA_c (st := st) (a := (st.stk (st.h - 1)))
    have hrb : b9 = 0 ∨ b9 = -9 := by have h := hq13.1; omega
    refine lv_istore_n (lv' := [(2, .int (iI b9)), (0, .ref mo), (1, .int (iI x))]) hx hb dMo_runTop_16 rfl hl (by decide) rfl (fun ls hl => ?_)
    refine lv_aload_n hx hb dMo_runTop_17 rfl (lv_at hl 1 rfl) ?_
    refine lv_iload_n hx hb dMo_runTop_18 rfl (lv_at hl 0 rfl) ?_
    refine iv_if_ge (tgt := 29) hx hb dMo_runTop_19 (by decide) ⟨by omega, by omega⟩ (fun hc19 => ?_) (fun hc19 => ?_)
    · refine lv_aload_n hx hb dMo_runTop_29 rfl (lv_at hl 1 rfl) ?_
      refine va_get (D := (dC, dI)) (ci := 7) (v := .int (iI hg)) (C := "MacroReckonerModel") (T := TMo) (N := 23) hx hb hts inMo hown hK hP 0 rfl rfl 8 (by decide) (hts _ wt4_66) (fun _ h9 => h9) rfl dMo_runTop_30 ?_
      refine lv_iconst (v := iI 1) hx hb dMo_runTop_33 rfl ?_
      refine iv_isub hx hb dMo_runTop_34 ?_
      refine va_put (D := (dC, dI)) (ci := 7) (v := .int (iI (hg - 1))) (ty := .int) (C := "MacroReckonerModel") (T := TMo) (N := 23) hx hb hts inMo tyMo tyMo_ok nmMo hown hK hP hD hS 0 rfl rfl 8 (by decide) (hts _ wt4_66) (fun _ h9 => h9) rfl (by decide +kernel) rfl rfl (Nat.le_of_ble_eq_true rfl) dMo_runTop_35 (fun H locs hP hD hS => ?_)
      have hP : va_P (dC, dI) vwCl (wMo dA mo ft lf (hg - 1) kk tx1_13 pn tk fm tO tl mI mT mS mC mL mB F1_13 U1_13 X1_13 mP mK mD mZ []) H := hP
      have hD : va_D A (wMo dA mo ft lf (hg - 1) kk tx1_13 pn tk fm tO tl mI mT mS mC mL mB F1_13 U1_13 X1_13 mP mK mD mZ []) := hD
      refine lv_iload_n hx hb dMo_runTop_38 rfl (lv_at hl 0 rfl) ?_
      exact rt_i hx hb hr hlocks hK hS dMo_runTop_39 (F1_13, U1_13, X1_13, tx1_13, hg - 1) hP hD (show b9 = (runA st).1 ∧ (hg - 1) = (runA st).2.h ∧ MX F1_13 U1_13 X1_13 tx1_13 (runA st).2 from by first | (have h := run_n (st := st) (by omega) (by have h := hq13.1; omega); rw [h.1]; refine ⟨hq13.1, by show hg = st.h; omega, ?_⟩; have h2 := hq13.2; rw [h.2] at h2; exact h2) | (rw [run_0 (by omega) (by have h := hq13.1; omega)]; exact ⟨by omega, by show hg - 1 = st.h - 1; omega, MX_c hq13.2 rfl rfl rfl⟩))
    · refine lv_aload_n hx hb dMo_runTop_22 rfl (lv_at hl 1 rfl) ?_
      refine va_get (D := (dC, dI)) (ci := 7) (v := .int (iI hg)) (C := "MacroReckonerModel") (T := TMo) (N := 23) hx hb hts inMo hown hK hP 0 rfl rfl 8 (by decide) (hts _ wt4_66) (fun _ h9 => h9) rfl dMo_runTop_23 ?_
      refine lv_goto (tgt := 35) hx hb dMo_runTop_26 (by decide) ?_
      refine va_put (D := (dC, dI)) (ci := 7) (v := .int (iI hg)) (ty := .int) (C := "MacroReckonerModel") (T := TMo) (N := 23) hx hb hts inMo tyMo tyMo_ok nmMo hown hK hP hD hS 0 rfl rfl 8 (by decide) (hts _ wt4_66) (fun _ h9 => h9) rfl (by decide +kernel) rfl rfl (Nat.le_of_ble_eq_true rfl) dMo_runTop_35 (fun H locs hP hD hS => ?_)
      have hP : va_P (dC, dI) vwCl (wMo dA mo ft lf hg kk tx1_13 pn tk fm tO tl mI mT mS mC mL mB F1_13 U1_13 X1_13 mP mK mD mZ []) H := hP
      have hD : va_D A (wMo dA mo ft lf hg kk tx1_13 pn tk fm tO tl mI mT mS mC mL mB F1_13 U1_13 X1_13 mP mK mD mZ []) := hD
      refine lv_iload_n hx hb dMo_runTop_38 rfl (lv_at hl 0 rfl) ?_
      exact rt_i hx hb hr hlocks hK hS dMo_runTop_39 (F1_13, U1_13, X1_13, tx1_13, hg) hP hD (show b9 = (runA st).1 ∧ hg = (runA st).2.h ∧ MX F1_13 U1_13 X1_13 tx1_13 (runA st).2 from by first | (have h := run_n (st := st) (by omega) (by have h := hq13.1; omega); rw [h.1]; refine ⟨hq13.1, by show hg = st.h; omega, ?_⟩; have h2 := hq13.2; rw [h.2] at h2; exact h2) | (rw [run_0 (by omega) (by have h := hq13.1; omega)]; exact ⟨by omega, by show hg - 1 = st.h - 1; omega, MX_c hq13.2 rfl rfl rfl⟩))
  · refine lv_iconst (v := iI 0) hx hb dMo_runTop_9 rfl ?_
    exact rt_i hx hb hr hlocks hK hS dMo_runTop_10 (mF, mU, mX, tx, hg) hP hD (show 0 = (runA st).1 ∧ hg = (runA st).2.h ∧ MX mF mU mX tx (runA st).2 from by rw [run_i (by omega)]; exact ⟨rfl, by show hg = st.h; omega, hMX⟩)

theorem dMo_printSome_0 : decode prog_9_method_50_code 0 = .ok (.iload_n 1, 1) := by decide +kernel
theorem dMo_printSome_1 : decode prog_9_method_50_code 1 = .ok (.bipush 102, 2) := by decide +kernel
theorem dMo_printSome_3 : decode prog_9_method_50_code 3 = .ok (.if_icmp .ne 10, 3) := by decide +kernel
theorem dMo_printSome_6 : decode prog_9_method_50_code 6 = .ok (.aload_n 0, 1) := by decide +kernel
theorem dMo_printSome_7 : decode prog_9_method_50_code 7 = .ok (.getfield 83, 3) := by decide +kernel
theorem dMo_printSome_10 : decode prog_9_method_50_code 10 = .ok (.goto 4, 3) := by decide +kernel
theorem dMo_printSome_13 : decode prog_9_method_50_code 13 = .ok (.iconst 1, 1) := by decide +kernel
theorem dMo_printSome_14 : decode prog_9_method_50_code 14 = .ok (.istore_n 3, 1) := by decide +kernel
theorem dMo_printSome_15 : decode prog_9_method_50_code 15 = .ok (.iconst 0, 1) := by decide +kernel
theorem dMo_printSome_16 : decode prog_9_method_50_code 16 = .ok (.istore 4, 2) := by decide +kernel
theorem dMo_printSome_18 : decode prog_9_method_50_code 18 = .ok (.iconst 0, 1) := by decide +kernel
theorem dMo_printSome_19 : decode prog_9_method_50_code 19 = .ok (.istore 5, 2) := by decide +kernel
theorem dMo_printSome_21 : decode prog_9_method_50_code 21 = .ok (.iload 5, 2) := by decide +kernel
theorem dMo_printSome_23 : decode prog_9_method_50_code 23 = .ok (.iload_n 3, 1) := by decide +kernel
theorem dMo_printSome_24 : decode prog_9_method_50_code 24 = .ok (.if_icmp .ge 34, 3) := by decide +kernel
theorem dMo_printSome_27 : decode prog_9_method_50_code 27 = .ok (.iload 4, 2) := by decide +kernel
theorem dMo_printSome_29 : decode prog_9_method_50_code 29 = .ok (.aload_n 0, 1) := by decide +kernel
theorem dMo_printSome_30 : decode prog_9_method_50_code 30 = .ok (.iload_n 2, 1) := by decide +kernel
theorem dMo_printSome_31 : decode prog_9_method_50_code 31 = .ok (.iload 5, 2) := by decide +kernel
theorem dMo_printSome_33 : decode prog_9_method_50_code 33 = .ok (.isub, 1) := by decide +kernel
theorem dMo_printSome_34 : decode prog_9_method_50_code 34 = .ok (.invokevirtual 208, 3) := by decide +kernel
theorem dMo_printSome_37 : decode prog_9_method_50_code 37 = .ok (.iadd, 1) := by decide +kernel
theorem dMo_printSome_38 : decode prog_9_method_50_code 38 = .ok (.iload_n 1, 1) := by decide +kernel
theorem dMo_printSome_39 : decode prog_9_method_50_code 39 = .ok (.bipush 110, 2) := by decide +kernel
theorem dMo_printSome_41 : decode prog_9_method_50_code 41 = .ok (.if_icmp .ne 7, 3) := by decide +kernel
theorem dMo_printSome_44 : decode prog_9_method_50_code 44 = .ok (.iconst 0, 1) := by decide +kernel
theorem dMo_printSome_45 : decode prog_9_method_50_code 45 = .ok (.goto 4, 3) := by decide +kernel
theorem dMo_printSome_48 : decode prog_9_method_50_code 48 = .ok (.iconst 1, 1) := by decide +kernel
theorem dMo_printSome_49 : decode prog_9_method_50_code 49 = .ok (.iadd, 1) := by decide +kernel
theorem dMo_printSome_50 : decode prog_9_method_50_code 50 = .ok (.istore 4, 2) := by decide +kernel
theorem dMo_printSome_52 : decode prog_9_method_50_code 52 = .ok (.iinc 5 1, 3) := by decide +kernel
theorem dMo_printSome_55 : decode prog_9_method_50_code 55 = .ok (.goto (-34), 3) := by decide +kernel
theorem dMo_printSome_58 : decode prog_9_method_50_code 58 = .ok (.aload_n 0, 1) := by decide +kernel
theorem dMo_printSome_59 : decode prog_9_method_50_code 59 = .ok (.getfield 114, 3) := by decide +kernel
theorem dMo_printSome_62 : decode prog_9_method_50_code 62 = .ok (.iload 4, 2) := by decide +kernel
theorem dMo_printSome_64 : decode prog_9_method_50_code 64 = .ok (.iadd, 1) := by decide +kernel
theorem dMo_printSome_65 : decode prog_9_method_50_code 65 = .ok (.sipush 200, 3) := by decide +kernel
theorem dMo_printSome_68 : decode prog_9_method_50_code 68 = .ok (.if_icmp .le 6, 3) := by decide +kernel
theorem dMo_printSome_71 : decode prog_9_method_50_code 71 = .ok (.bipush (-10), 2) := by decide +kernel
theorem dMo_printSome_73 : decode prog_9_method_50_code 73 = .ok (.ireturn, 1) := by decide +kernel
theorem dMo_printSome_74 : decode prog_9_method_50_code 74 = .ok (.iconst 0, 1) := by decide +kernel
theorem dMo_printSome_75 : decode prog_9_method_50_code 75 = .ok (.istore 5, 2) := by decide +kernel
theorem dMo_printSome_77 : decode prog_9_method_50_code 77 = .ok (.iload 5, 2) := by decide +kernel
theorem dMo_printSome_79 : decode prog_9_method_50_code 79 = .ok (.iload_n 3, 1) := by decide +kernel
theorem dMo_printSome_80 : decode prog_9_method_50_code 80 = .ok (.if_icmp .ge 29, 3) := by decide +kernel
theorem dMo_printSome_83 : decode prog_9_method_50_code 83 = .ok (.aload_n 0, 1) := by decide +kernel
theorem dMo_printSome_84 : decode prog_9_method_50_code 84 = .ok (.iload_n 2, 1) := by decide +kernel
theorem dMo_printSome_85 : decode prog_9_method_50_code 85 = .ok (.iload 5, 2) := by decide +kernel
theorem dMo_printSome_87 : decode prog_9_method_50_code 87 = .ok (.isub, 1) := by decide +kernel
theorem dMo_printSome_88 : decode prog_9_method_50_code 88 = .ok (.invokevirtual 211, 3) := by decide +kernel
theorem dMo_printSome_91 : decode prog_9_method_50_code 91 = .ok (.iload_n 1, 1) := by decide +kernel
theorem dMo_printSome_92 : decode prog_9_method_50_code 92 = .ok (.bipush 110, 2) := by decide +kernel
theorem dMo_printSome_94 : decode prog_9_method_50_code 94 = .ok (.if_icmp .eq 9, 3) := by decide +kernel
theorem dMo_printSome_97 : decode prog_9_method_50_code 97 = .ok (.aload_n 0, 1) := by decide +kernel
theorem dMo_printSome_98 : decode prog_9_method_50_code 98 = .ok (.bipush 10, 2) := by decide +kernel
theorem dMo_printSome_100 : decode prog_9_method_50_code 100 = .ok (.invokevirtual 117, 3) := by decide +kernel
theorem dMo_printSome_103 : decode prog_9_method_50_code 103 = .ok (.iinc 5 1, 3) := by decide +kernel
theorem dMo_printSome_106 : decode prog_9_method_50_code 106 = .ok (.goto (-29), 3) := by decide +kernel
theorem dMo_printSome_109 : decode prog_9_method_50_code 109 = .ok (.aload_n 0, 1) := by decide +kernel
theorem dMo_printSome_110 : decode prog_9_method_50_code 110 = .ok (.iload_n 1, 1) := by decide +kernel
theorem dMo_printSome_111 : decode prog_9_method_50_code 111 = .ok (.bipush 110, 2) := by decide +kernel
theorem dMo_printSome_113 : decode prog_9_method_50_code 113 = .ok (.if_icmp .ne 12, 3) := by decide +kernel
theorem dMo_printSome_116 : decode prog_9_method_50_code 116 = .ok (.aload_n 0, 1) := by decide +kernel
theorem dMo_printSome_117 : decode prog_9_method_50_code 117 = .ok (.getfield 83, 3) := by decide +kernel
theorem dMo_printSome_120 : decode prog_9_method_50_code 120 = .ok (.iconst 1, 1) := by decide +kernel
theorem dMo_printSome_121 : decode prog_9_method_50_code 121 = .ok (.isub, 1) := by decide +kernel
theorem dMo_printSome_122 : decode prog_9_method_50_code 122 = .ok (.goto 7, 3) := by decide +kernel
theorem dMo_printSome_125 : decode prog_9_method_50_code 125 = .ok (.aload_n 0, 1) := by decide +kernel
theorem dMo_printSome_126 : decode prog_9_method_50_code 126 = .ok (.getfield 83, 3) := by decide +kernel
theorem dMo_printSome_129 : decode prog_9_method_50_code 129 = .ok (.putfield 83, 3) := by decide +kernel
theorem dMo_printSome_132 : decode prog_9_method_50_code 132 = .ok (.iconst 0, 1) := by decide +kernel
theorem dMo_printSome_133 : decode prog_9_method_50_code 133 = .ok (.ireturn, 1) := by decide +kernel
abbrev qMo_printSome (dC : Nat → ClassId) (dI : Nat → Nat → Nat) (dA : Nat → ClassId) (mo : Nat) (ft : Int) (lf : Int) (hg : Int) (kk : Int) (tx : Int) (pn : Int) (tk : Int) (fm : Int) (tO : Int) (tl : Int) (mI : Int → Int) (mT : Int → Int) (mS : Int → Int) (mC : Int → Int) (mL : Int → Int) (mB : Int → Int) (mF : Int → Int) (mU : Int → Int) (mX : Int → Int) (mP : Int → Int) (mK : Int → Int) (mD : Int → Int) (mZ : Int → Int) (c0 : Int) (x : Int) (st : AS) (A : Nat → Prop) : Array Value → State → Outcome → State → Prop := QI (dC, dI) vwCl (tyA dA) (fun (r : Int) (v_ : (Int → Int) × Int × Int) => r = (prtA st c0).1 ∧ v_.2.2 = (prtA st c0).2.h ∧ MG v_.1 v_.2.1 (prtA st c0).2) (fun (v_ : (Int → Int) × Int × Int) => wMo dA mo ft lf v_.2.2 kk tx v_.2.1 tk fm tO tl mI mT mS mC mL mB mF mU mX v_.1 mK mD mZ []) A
abbrev rmMo_printSome : Room := { frames := 2, cells := 0, slots := 0, locals := 43 }
set_option maxRecDepth 100000 in
set_option maxHeartbeats 1000000 in
theorem cMo_printSome (l : Launch) (dC : Nat → ClassId) (dI : Nat → Nat → Nat) (dA : Nat → ClassId) (mo : Nat) (ft : Int) (lf : Int) (hg : Int) (kk : Int) (tx : Int) (pn : Int) (tk : Int) (fm : Int) (tO : Int) (tl : Int) (mI : Int → Int) (mT : Int → Int) (mS : Int → Int) (mC : Int → Int) (mL : Int → Int) (mB : Int → Int) (mF : Int → Int) (mU : Int → Int) (mX : Int → Int) (mP : Int → Int) (mK : Int → Int) (mD : Int → Int) (mZ : Int → Int) (c0 : Int) (x : Int) (st : AS) (hc0 : c0 = 112 ∨ c0 = 110 ∨ c0 = 102) (hx9 : x = 25 + hg) (hm9 : c0 ≠ 102 → 1 ≤ hg) (hMH : MH mT mS mC mL mB hg kk st) (hMG : MG mP pn st) (sz : Nat) : Met l yMo_printSome wsMo_printSome rmMo_printSome (PC (dC, dI) vwCl (tyA dA) XN [.ref mo, .int (iI c0), .int (iI x)] (wMo dA mo ft lf hg kk tx pn tk fm tO tl mI mT mS mC mL mB mF mU mX mP mK mD mZ []) sz) (qMo_printSome dC dI dA mo ft lf hg kk tx pn tk fm tO tl mI mT mS mC mL mB mF mU mX mP mK mD mZ c0 x st (va_A (wMo dA mo ft lf hg kk tx pn tk fm tO tl mI mT mS mC mL mB mF mU mX mP mK mD mZ []) sz)) 0 0 (va_A (wMo dA mo ft lf hg kk tx pn tk fm tO tl mI mT mS mC mL mB mF mU mX mP mK mD mZ []) sz) := by
  refine met_of (cc := prog_9_method_50_code) (maxL := 6) (ret := (some .int)) (Qc := qMo_printSome dC dI dA mo ft lf hg kk tx pn tk fm tO tl mI mT mS mC mL mB mF mU mX mP mK mD mZ c0 x st) XN_ok (by decide) rfl (Nat.le_of_ble_eq_true rfl) ?_
  intro p e s m below meth c ls A hx hb hr hml hown hts hlocks hnm hK hP hD hA hX hS hl
  have hl : lv_has ls 6 [(0, .ref mo), (1, .int (iI c0)), (2, .int (iI x))] := hl
  have hown : s.vm.findClass "MacroReckonerModel" = some m.cls := hown
  obtain ⟨H, hH⟩ : ∃ H : Heap, H = s.heap := ⟨_, rfl⟩
  obtain ⟨locs, hlo⟩ : ∃ L : List Loc, L = [] := ⟨_, rfl⟩
  have hP : va_P (dC, dI) vwCl (wMo dA mo ft lf hg kk tx pn tk fm tO tl mI mT mS mC mL mB mF mU mX mP mK mD mZ []) H := hH ▸ hP
  have hS : va_S A s.heap H locs := by rw [hH, hlo]; exact hS
  suffices hgo : W p l e rmMo_printSome s m [.ref mo, .int (iI c0), .int (iI x)].toArray below meth c H locs 0 0 (MQ below (qMo_printSome dC dI dA mo ft lf hg kk tx pn tk fm tO tl mI mT mS mC mL mB mF mU mX mP mK mD mZ c0 x st A) [.ref mo, .int (iI c0), .int (iI x)].toArray s 0 0 A) (F0 m 0 ls []) by rw [hH, hlo] at hgo; exact hgo
  clear hH hlo
  have hh := hMH.1
  have hg9 := hMG.1
  have hnl : (nwl c0 = 0 ∧ c0 = 110) ∨ (nwl c0 = 1 ∧ c0 ≠ 110) := by unfold nwl; split <;> omega
  refine lv_iload_n hx hb dMo_printSome_0 rfl (lv_at hl 1 rfl) ?_
  refine lv_bipush (v := iI 102) hx hb dMo_printSome_1 (by decide) ?_
  have J15 : ∀ (mn : Int) (H : Heap) (locs : List Loc) (ls : Array Slot), (mn = mny st c0 ∧ 0 ≤ mn ∧ mn ≤ hg) → va_P (dC, dI) vwCl (wMo dA mo ft lf hg kk tx pn tk fm tO tl mI mT mS mC mL mB mF mU mX mP mK mD mZ []) H → va_D A (wMo dA mo ft lf hg kk tx pn tk fm tO tl mI mT mS mC mL mB mF mU mX mP mK mD mZ []) → va_S A s.heap H locs → lv_has ls 6 [(0, .ref mo), (1, .int (iI c0)), (2, .int (iI x)), (3, .int (iI mn))] → W p l e rmMo_printSome s m [.ref mo, .int (iI c0), .int (iI x)].toArray below meth c H locs 0 0 (MQ below (qMo_printSome dC dI dA mo ft lf hg kk tx pn tk fm tO tl mI mT mS mC mL mB mF mU mX mP mK mD mZ c0 x st A) [.ref mo, .int (iI c0), .int (iI x)].toArray s 0 0 A) (F0 m 15 ls []) := by
    intro mn H locs ls hmn9 hP hD hS hl
    refine lv_iconst (v := iI 0) hx hb dMo_printSome_15 rfl ?_
    refine lv_istore (lv' := [(4, .int (iI 0)), (0, .ref mo), (1, .int (iI c0)), (2, .int (iI x)), (3, .int (iI mn))]) hx hb dMo_printSome_16 hl (by decide) rfl (fun ls hl => ?_)
    refine lv_iconst (v := iI 0) hx hb dMo_printSome_18 rfl ?_
    refine lv_istore (lv' := [(5, .int (iI 0)), (4, .int (iI 0)), (0, .ref mo), (1, .int (iI c0)), (2, .int (iI x)), (3, .int (iI mn))]) hx hb dMo_printSome_19 hl (by decide) rfl (fun ls hl => ?_)
    have L21 : ∀ (n : Nat) (wd : Int) (j : Int) (H : Heap) (locs : List Loc) (ls : Array Slot), (0 ≤ j ∧ j ≤ mn) → (wd = (prN st (nwl c0) j.toNat).pl - st.pl ∧ 0 ≤ wd ∧ wd ≤ 103 * j) → (mn - j).toNat < n → va_P (dC, dI) vwCl (wMo dA mo ft lf hg kk tx pn tk fm tO tl mI mT mS mC mL mB mF mU mX mP mK mD mZ []) H → va_D A (wMo dA mo ft lf hg kk tx pn tk fm tO tl mI mT mS mC mL mB mF mU mX mP mK mD mZ []) → va_S A s.heap H locs → lv_has ls 6 [(5, .int (iI j)), (4, .int (iI wd)), (0, .ref mo), (1, .int (iI c0)), (2, .int (iI x)), (3, .int (iI mn))] → W p l e rmMo_printSome s m [.ref mo, .int (iI c0), .int (iI x)].toArray below meth c H locs 0 0 (MQ below (qMo_printSome dC dI dA mo ft lf hg kk tx pn tk fm tO tl mI mT mS mC mL mB mF mU mX mP mK mD mZ c0 x st A) [.ref mo, .int (iI c0), .int (iI x)].toArray s 0 0 A) (F0 m 21 ls []) := by
      intro n
      induction n with
      | zero => intro wd j H locs ls hj hwd hn; omega
      | succ n ih =>
        intro wd j H locs ls hj hwd hn hP hD hS hl
        have ih21 := ih
        refine lv_iload hx hb dMo_printSome_21 (lv_at hl 0 rfl) ?_
        refine lv_iload_n hx hb dMo_printSome_23 rfl (lv_at hl 5 rfl) ?_
        refine iv_icmp_ge (tgt := 58) hx hb dMo_printSome_24 (by decide) ⟨by omega, by omega⟩ ⟨by omega, by omega⟩ (fun hc24 => ?_) (fun hc24 => ?_)
        · have hje : j = mn := by omega
          have hwd2 := hwd.1
          rw [hje, hmn9.1] at hwd2
          refine lv_aload_n hx hb dMo_printSome_58 rfl (lv_at hl 2 rfl) ?_
          refine va_get (D := (dC, dI)) (ci := 7) (v := .int (iI pn)) (C := "MacroReckonerModel") (T := TMo) (N := 23) hx hb hts inMo hown hK hP 0 rfl rfl 14 (by decide) (hts _ wt4_72) (fun _ h9 => h9) rfl dMo_printSome_59 ?_
          refine lv_iload hx hb dMo_printSome_62 (lv_at hl 1 rfl) ?_
          refine iv_iadd hx hb dMo_printSome_64 ?_
          refine lv_sipush (v := iI 200) hx hb dMo_printSome_65 (by decide) ?_
          refine iv_icmp_le (tgt := 74) hx hb dMo_printSome_68 (by decide) ⟨by omega, by omega⟩ ⟨by decide, by decide⟩ (fun hc68 => ?_) (fun hc68 => ?_)
          · refine lv_iconst (v := iI 0) hx hb dMo_printSome_74 rfl ?_
            refine lv_istore (lv' := [(5, .int (iI 0)), (4, .int (iI wd)), (0, .ref mo), (1, .int (iI c0)), (2, .int (iI x)), (3, .int (iI mn))]) hx hb dMo_printSome_75 hl (by decide) rfl (fun ls hl => ?_)
            have L77 : ∀ (n : Nat) (P9 : Int → Int) (p9 : Int) (j8 : Int) (H : Heap) (locs : List Loc) (ls : Array Slot), (0 ≤ j8 ∧ j8 ≤ mn) → (MG P9 p9 (prN st (nwl c0) j8.toNat)) → (mn - j8).toNat < n → va_P (dC, dI) vwCl (wMo dA mo ft lf hg kk tx p9 tk fm tO tl mI mT mS mC mL mB mF mU mX P9 mK mD mZ []) H → va_D A (wMo dA mo ft lf hg kk tx p9 tk fm tO tl mI mT mS mC mL mB mF mU mX P9 mK mD mZ []) → va_S A s.heap H locs → lv_has ls 6 [(5, .int (iI j8)), (4, .int (iI wd)), (0, .ref mo), (1, .int (iI c0)), (2, .int (iI x)), (3, .int (iI mn))] → W p l e rmMo_printSome s m [.ref mo, .int (iI c0), .int (iI x)].toArray below meth c H locs 0 0 (MQ below (qMo_printSome dC dI dA mo ft lf hg kk tx pn tk fm tO tl mI mT mS mC mL mB mF mU mX mP mK mD mZ c0 x st A) [.ref mo, .int (iI c0), .int (iI x)].toArray s 0 0 A) (F0 m 77 ls []) := by
              intro n
              induction n with
              | zero => intro P9 p9 j8 H locs ls hj8 hG8 hn; omega
              | succ n ih =>
                intro P9 p9 j8 H locs ls hj8 hG8 hn hP hD hS hl
                have ih77 := ih
                refine lv_iload hx hb dMo_printSome_77 (lv_at hl 0 rfl) ?_
                refine lv_iload_n hx hb dMo_printSome_79 rfl (lv_at hl 5 rfl) ?_
                refine iv_icmp_ge (tgt := 109) hx hb dMo_printSome_80 (by decide) ⟨by omega, by omega⟩ ⟨by omega, by omega⟩ (fun hc80 => ?_) (fun hc80 => ?_)
                · have hje8 : j8 = mn := by omega
                  rw [hje8, hmn9.1] at hG8
                  refine lv_aload_n hx hb dMo_printSome_109 rfl (lv_at hl 2 rfl) ?_
                  refine lv_iload_n hx hb dMo_printSome_110 rfl (lv_at hl 3 rfl) ?_
                  refine lv_bipush (v := iI 110) hx hb dMo_printSome_111 (by decide) ?_
                  refine iv_icmp_ne (tgt := 125) hx hb dMo_printSome_113 (by decide) ⟨by omega, by omega⟩ ⟨by decide, by decide⟩ (fun hc113 => ?_) (fun hc113 => ?_)
                  · refine lv_aload_n hx hb dMo_printSome_125 rfl (lv_at hl 2 rfl) ?_
                    refine va_get (D := (dC, dI)) (ci := 7) (v := .int (iI hg)) (C := "MacroReckonerModel") (T := TMo) (N := 23) hx hb hts inMo hown hK hP 0 rfl rfl 8 (by decide) (hts _ wt4_66) (fun _ h9 => h9) rfl dMo_printSome_126 ?_
                    refine va_put (D := (dC, dI)) (ci := 7) (v := .int (iI hg)) (ty := .int) (C := "MacroReckonerModel") (T := TMo) (N := 23) hx hb hts inMo tyMo tyMo_ok nmMo hown hK hP hD hS 0 rfl rfl 8 (by decide) (hts _ wt4_66) (fun _ h9 => h9) rfl (by decide +kernel) rfl rfl (Nat.le_of_ble_eq_true rfl) dMo_printSome_129 (fun H locs hP hD hS => ?_)
                    have hP : va_P (dC, dI) vwCl (wMo dA mo ft lf hg kk tx p9 tk fm tO tl mI mT mS mC mL mB mF mU mX P9 mK mD mZ []) H := hP
                    have hD : va_D A (wMo dA mo ft lf hg kk tx p9 tk fm tO tl mI mT mS mC mL mB mF mU mX P9 mK mD mZ []) := hD
                    refine lv_iconst (v := iI 0) hx hb dMo_printSome_132 rfl ?_
                    exact rt_i hx hb hr hlocks hK hS dMo_printSome_133 (P9, p9, hg) hP hD (show 0 = (prtA st c0).1 ∧ hg = (prtA st c0).2.h ∧ MG P9 p9 (prtA st c0).2 from by rw [prt_e hc0 (by omega)]; refine ⟨rfl, ?_, MG_c hG8 rfl rfl⟩; show _ = (if c0 = 110 then st.h - 1 else st.h); (first | rw [if_pos (by omega)] | rw [if_neg (by omega)]); omega)
                  · refine lv_aload_n hx hb dMo_printSome_116 rfl (lv_at hl 2 rfl) ?_
                    refine va_get (D := (dC, dI)) (ci := 7) (v := .int (iI hg)) (C := "MacroReckonerModel") (T := TMo) (N := 23) hx hb hts inMo hown hK hP 0 rfl rfl 8 (by decide) (hts _ wt4_66) (fun _ h9 => h9) rfl dMo_printSome_117 ?_
                    refine lv_iconst (v := iI 1) hx hb dMo_printSome_120 rfl ?_
                    refine iv_isub hx hb dMo_printSome_121 ?_
                    refine lv_goto (tgt := 129) hx hb dMo_printSome_122 (by decide) ?_
                    refine va_put (D := (dC, dI)) (ci := 7) (v := .int (iI (hg - 1))) (ty := .int) (C := "MacroReckonerModel") (T := TMo) (N := 23) hx hb hts inMo tyMo tyMo_ok nmMo hown hK hP hD hS 0 rfl rfl 8 (by decide) (hts _ wt4_66) (fun _ h9 => h9) rfl (by decide +kernel) rfl rfl (Nat.le_of_ble_eq_true rfl) dMo_printSome_129 (fun H locs hP hD hS => ?_)
                    have hP : va_P (dC, dI) vwCl (wMo dA mo ft lf (hg - 1) kk tx p9 tk fm tO tl mI mT mS mC mL mB mF mU mX P9 mK mD mZ []) H := hP
                    have hD : va_D A (wMo dA mo ft lf (hg - 1) kk tx p9 tk fm tO tl mI mT mS mC mL mB mF mU mX P9 mK mD mZ []) := hD
                    refine lv_iconst (v := iI 0) hx hb dMo_printSome_132 rfl ?_
                    exact rt_i hx hb hr hlocks hK hS dMo_printSome_133 (P9, p9, hg - 1) hP hD (show 0 = (prtA st c0).1 ∧ (hg - 1) = (prtA st c0).2.h ∧ MG P9 p9 (prtA st c0).2 from by rw [prt_e hc0 (by omega)]; refine ⟨rfl, ?_, MG_c hG8 rfl rfl⟩; show _ = (if c0 = 110 then st.h - 1 else st.h); (first | rw [if_pos (by omega)] | rw [if_neg (by omega)]); omega)
                · have hT8 := MH_t hMH (i := st.h - 1 - j8) (by omega) (by omega)
                  rw [show 26 + (st.h - 1 - j8) = x - j8 by omega] at hT8
                  have hmo := prN_m hMH (nl := nwl c0) (by omega) (mn - (j8 + 1)).toNat (j8 + 1) (by omega) (by omega)
                  rw [show j8 + 1 + ((mn - (j8 + 1)).toNat : Int) = mn by omega, prN_s hj8.1, hmn9.1] at hmo
                  have hpl1 : (prA (prN st (nwl c0) j8.toNat) (st.stk (st.h - 1 - j8)) (nwl c0)).pl = (prN st (nwl c0) j8.toNat).pl + thW (st.stk (st.h - 1 - j8)) + nwl c0 := rfl
                  have hg8 := hG8.1
                  have hwb := thW_b hT8
                  refine lv_aload_n hx hb dMo_printSome_83 rfl (lv_at hl 2 rfl) ?_
                  refine lv_iload_n hx hb dMo_printSome_84 rfl (lv_at hl 4 rfl) ?_
                  refine lv_iload hx hb dMo_printSome_85 (lv_at hl 0 rfl) ?_
                  refine iv_isub hx hb dMo_printSome_87 ?_
                  refine cv_v (va_runV (C := "MacroReckonerModel") (As := [.int (iI (x - j8))]) (rest := []) ⟨hx, hb, hml, hown, hts⟩ (cMo_printThing l dC dI dA mo ft lf hg kk tx p9 tk fm tO tl mI mT mS mC mL mB mF mU mX P9 mK mD mZ (x - j8) (st.stk (st.h - 1 - j8)) (by omega) (by exact hT8) (by omega) H.size) (cwV 1 hts (gdV wt5_89 wt5_91 ws6_3 wt1_8 wt5_92) rfl rfl rfl ⟨rfl, by decide, by decide, by decide +kernel⟩ ⟨by decide, by decide⟩) (preV (q := ("MacroReckonerModel", TMo, 23)) hK hP hD hS hA XN_ok trivial [0, 1, 2, 3, 4, 5, 6, 7, 8, 9, 10, 11, 12, 13] rfl rfl 0 rfl rfl) rfl rfl hl.1 rfl (lv_room (Nat.le_of_ble_eq_true rfl)) dMo_printSome_88 ⟨Nat.zero_le _, Nat.zero_le _⟩) hP hD hS hA [0, 1, 2, 3, 4, 5, 6, 7, 8, 9, 10, 11, 12, 13] [] rfl (fun v_ => wMo dA mo ft lf hg kk tx v_.2 tk fm tO tl mI mT mS mC mL mB mF mU mX v_.1 mK mD mZ []) (fun _ => rfl) ([] : va_W) rfl (fun _ => rfl) [mo, mo + 1, mo + 2, mo + 3, mo + 4, mo + 5, mo + 6, mo + 7, mo + 8, mo + 9, mo + 10, mo + 11, mo + 12, mo + 13] rfl (fun _ => rfl) (fun _ => rfl) (fun u_ H locs hq88 hP hD hS => ?_)
                  obtain ⟨P1_88, pn1_88⟩ := u_
                  have hP : va_P (dC, dI) vwCl (wMo dA mo ft lf hg kk tx pn1_88 tk fm tO tl mI mT mS mC mL mB mF mU mX P1_88 mK mD mZ []) H := hP
                  have hD : va_D A (wMo dA mo ft lf hg kk tx pn1_88 tk fm tO tl mI mT mS mC mL mB mF mU mX P1_88 mK mD mZ []) := hD
                  have hq88 : pn1_88 = p9 + thW (st.stk (st.h - 1 - j8)) ∧ (∀ j, j < p9 → P1_88 j = P9 j) ∧ ∀ j, 0 ≤ j → j < thW (st.stk (st.h - 1 - j8)) → P1_88 (p9 + j) = thC (st.stk (st.h - 1 - j8)) j := hq88
                  refine lv_iload_n hx hb dMo_printSome_91 rfl (lv_at hl 3 rfl) ?_
                  refine lv_bipush (v := iI 110) hx hb dMo_printSome_92 (by decide) ?_
                  refine iv_icmp_eq (tgt := 103) hx hb dMo_printSome_94 (by decide) ⟨by omega, by omega⟩ ⟨by decide, by decide⟩ (fun hc94 => ?_) (fun hc94 => ?_)
                  · refine lv_iinc (k := 0) (lv' := [(5, .int (iI (j8 + 1))), (4, .int (iI wd)), (0, .ref mo), (1, .int (iI c0)), (2, .int (iI x)), (3, .int (iI mn))]) (v := iI (j8 + 1)) hx hb dMo_printSome_103 hl rfl (iI_add _ _).symm (by decide) rfl (fun ls hl => ?_)
                    refine lv_goto (tgt := 77) hx hb dMo_printSome_106 (by decide) ?_
                    exact ih77 P1_88 pn1_88 (j8 + 1) H locs ls (by omega) (by rw [prN_s hj8.1]; first | (rw [show nwl c0 = 0 by omega]; rw [show nwl c0 = 0 by omega] at hG8; exact MG_0 hG8 hq88.1 (by omega) hq88.2.1 hq88.2.2 hwb) | (rw [show nwl c0 = 1 by omega]; rw [show nwl c0 = 1 by omega] at hG8; exact MG_1 hG8 hq88.1 (by omega) hq88.2.1 hq88.2.2 hwb)) (by omega) hP hD hS (lv_sub hl [0, 1, 2, 3, 4, 5] rfl)
                  · refine lv_aload_n hx hb dMo_printSome_97 rfl (lv_at hl 2 rfl) ?_
                    refine lv_bipush (v := iI 10) hx hb dMo_printSome_98 (by decide) ?_
                    refine cv_v (va_runV (C := "MacroReckonerModel") (As := [.int (iI 10)]) (rest := []) ⟨hx, hb, hml, hown, hts⟩ (cMo_print l dC dI dA mo ft lf hg kk tx pn1_88 tk fm tO tl mI mT mS mC mL mB mF mU mX P1_88 mK mD mZ 10 (by omega) H.size) (cwV 1 hts (gdV wt5_93 wt5_95 ws6_4 wt1_8 wt5_96) rfl rfl rfl ⟨rfl, by decide, by decide, by decide +kernel⟩ ⟨by decide, by decide⟩) (preV (q := ("MacroReckonerModel", TMo, 23)) hK hP hD hS hA XN_ok trivial [0, 1, 2, 3, 4, 5, 6, 7, 8, 9, 10, 11, 12, 13] rfl rfl 0 rfl rfl) rfl rfl hl.1 rfl (lv_room (Nat.le_of_ble_eq_true rfl)) dMo_printSome_100 ⟨Nat.zero_le _, Nat.zero_le _⟩) hP hD hS hA [0, 1, 2, 3, 4, 5, 6, 7, 8, 9, 10, 11, 12, 13] [] rfl (fun v_ => wMo dA mo ft lf hg kk tx ((pn1_88 + 1)) tk fm tO tl mI mT mS mC mL mB mF mU mX ((up P1_88 pn1_88 10)) mK mD mZ []) (fun _ => rfl) ([] : va_W) rfl (fun _ => rfl) [mo, mo + 1, mo + 2, mo + 3, mo + 4, mo + 5, mo + 6, mo + 7, mo + 8, mo + 9, mo + 10, mo + 11, mo + 12, mo + 13] rfl (fun _ => rfl) (fun _ => rfl) (fun u_ H locs hq100 hP hD hS => ?_)
                    have hP : va_P (dC, dI) vwCl (wMo dA mo ft lf hg kk tx ((pn1_88 + 1)) tk fm tO tl mI mT mS mC mL mB mF mU mX ((up P1_88 pn1_88 10)) mK mD mZ []) H := hP
                    have hD : va_D A (wMo dA mo ft lf hg kk tx ((pn1_88 + 1)) tk fm tO tl mI mT mS mC mL mB mF mU mX ((up P1_88 pn1_88 10)) mK mD mZ []) := hD
                    have hq100 : True := hq100
                    refine lv_iinc (k := 0) (lv' := [(5, .int (iI (j8 + 1))), (4, .int (iI wd)), (0, .ref mo), (1, .int (iI c0)), (2, .int (iI x)), (3, .int (iI mn))]) (v := iI (j8 + 1)) hx hb dMo_printSome_103 hl rfl (iI_add _ _).symm (by decide) rfl (fun ls hl => ?_)
                    refine lv_goto (tgt := 77) hx hb dMo_printSome_106 (by decide) ?_
                    exact ih77 ((up P1_88 pn1_88 10)) ((pn1_88 + 1)) (j8 + 1) H locs ls (by omega) (by rw [prN_s hj8.1]; first | (rw [show nwl c0 = 0 by omega]; rw [show nwl c0 = 0 by omega] at hG8; exact MG_0 hG8 hq88.1 (by omega) hq88.2.1 hq88.2.2 hwb) | (rw [show nwl c0 = 1 by omega]; rw [show nwl c0 = 1 by omega] at hG8; exact MG_1 hG8 hq88.1 (by omega) hq88.2.1 hq88.2.2 hwb)) (by omega) hP hD hS (lv_sub hl [0, 1, 2, 3, 4, 5] rfl)
            exact L77 _ mP pn 0 H locs ls (by omega) (by exact hMG) (Nat.lt_succ_self _) hP hD hS (lv_sub hl [0, 1, 2, 3, 4, 5] rfl)
          · refine lv_bipush (v := iI (-10)) hx hb dMo_printSome_71 (by decide) ?_
            exact rt_i hx hb hr hlocks hK hS dMo_printSome_73 (mP, pn, hg) hP hD (show (-10) = (prtA st c0).1 ∧ hg = (prtA st c0).2.h ∧ MG mP pn (prtA st c0).2 from by rw [prt_o hc0 (by omega)]; exact ⟨rfl, by show hg = st.h; omega, hMG⟩)
        · have hT9 := MH_t hMH (i := st.h - 1 - j) (by omega) (by omega)
          rw [show 26 + (st.h - 1 - j) = x - j by omega] at hT9
          refine lv_iload hx hb dMo_printSome_27 (lv_at hl 1 rfl) ?_
          refine lv_aload_n hx hb dMo_printSome_29 rfl (lv_at hl 2 rfl) ?_
          refine lv_iload_n hx hb dMo_printSome_30 rfl (lv_at hl 4 rfl) ?_
          refine lv_iload hx hb dMo_printSome_31 (lv_at hl 0 rfl) ?_
          refine iv_isub hx hb dMo_printSome_33 ?_
          refine cv_i (va_runV (C := "MacroReckonerModel") (As := [.int (iI (x - j))]) (rest := [.int (iI wd)]) ⟨hx, hb, hml, hown, hts⟩ (cMo_widthOf l dC dI dA mo ft lf hg kk tx pn tk fm tO tl mI mT mS mC mL mB mF mU mX mP mK mD mZ (x - j) (st.stk (st.h - 1 - j)) (by omega) (by exact hT9) H.size) (cwV 1 hts (gdV wt5_85 wt5_87 ws6_2 wt1_8 wt5_88) rfl rfl rfl ⟨rfl, by decide, by decide, by decide +kernel⟩ ⟨by decide, by decide⟩) (preV (q := ("MacroReckonerModel", TMo, 23)) hK hP hD hS hA XN_ok trivial [0, 1, 2, 3, 4, 5, 6, 7, 8, 9, 10, 11, 12, 13] rfl rfl 0 rfl rfl) rfl rfl hl.1 rfl (lv_room (Nat.le_of_ble_eq_true rfl)) dMo_printSome_34 ⟨Nat.zero_le _, Nat.zero_le _⟩) hP hD hS hA [0, 1, 2, 3, 4, 5, 6, 7, 8, 9, 10, 11, 12, 13] [] rfl (fun v_ => wMo dA mo ft lf hg kk tx pn tk fm tO tl mI mT mS mC mL mB mF mU mX mP mK mD mZ []) (fun _ => rfl) ([] : va_W) rfl (fun _ => rfl) [mo, mo + 1, mo + 2, mo + 3, mo + 4, mo + 5, mo + 6, mo + 7, mo + 8, mo + 9, mo + 10, mo + 11, mo + 12, mo + 13] rfl (fun _ => rfl) (fun _ => rfl) (fun r34 u_ H locs hq34 hP hD hS => ?_)
          have hP : va_P (dC, dI) vwCl (wMo dA mo ft lf hg kk tx pn tk fm tO tl mI mT mS mC mL mB mF mU mX mP mK mD mZ []) H := hP
          have hD : va_D A (wMo dA mo ft lf hg kk tx pn tk fm tO tl mI mT mS mC mL mB mF mU mX mP mK mD mZ []) := hD
          have hq34 : r34 = thW (st.stk (st.h - 1 - j)) ∧ 0 ≤ r34 ∧ r34 ≤ 102 := hq34
          refine iv_iadd hx hb dMo_printSome_37 ?_
          refine lv_iload_n hx hb dMo_printSome_38 rfl (lv_at hl 3 rfl) ?_
          refine lv_bipush (v := iI 110) hx hb dMo_printSome_39 (by decide) ?_
          refine iv_icmp_ne (tgt := 48) hx hb dMo_printSome_41 (by decide) ⟨by omega, by omega⟩ ⟨by decide, by decide⟩ (fun hc41 => ?_) (fun hc41 => ?_)
          · refine lv_iconst (v := iI 1) hx hb dMo_printSome_48 rfl ?_
            refine iv_iadd hx hb dMo_printSome_49 ?_
            refine lv_istore (lv' := [(4, .int (iI ((wd + r34) + 1))), (5, .int (iI j)), (0, .ref mo), (1, .int (iI c0)), (2, .int (iI x)), (3, .int (iI mn))]) hx hb dMo_printSome_50 hl (by decide) rfl (fun ls hl => ?_)
            refine lv_iinc (k := 1) (lv' := [(5, .int (iI (j + 1))), (4, .int (iI ((wd + r34) + 1))), (0, .ref mo), (1, .int (iI c0)), (2, .int (iI x)), (3, .int (iI mn))]) (v := iI (j + 1)) hx hb dMo_printSome_52 hl rfl (iI_add _ _).symm (by decide) rfl (fun ls hl => ?_)
            refine lv_goto (tgt := 21) hx hb dMo_printSome_55 (by decide) ?_
            exact ih21 ((wd + r34) + 1) (j + 1) H locs ls (by omega) (by rw [prN_s hj.1]; have e9 : (prA (prN st (nwl c0) j.toNat) (st.stk (st.h - 1 - j)) (nwl c0)).pl = (prN st (nwl c0) j.toNat).pl + thW (st.stk (st.h - 1 - j)) + nwl c0 := rfl; omega) (by omega) hP hD hS (lv_sub hl [0, 1, 2, 3, 4, 5] rfl)
          · refine lv_iconst (v := iI 0) hx hb dMo_printSome_44 rfl ?_
            refine lv_goto (tgt := 49) hx hb dMo_printSome_45 (by decide) ?_
            refine iv_iadd hx hb dMo_printSome_49 ?_
            refine lv_istore (lv' := [(4, .int (iI ((wd + r34) + 0))), (5, .int (iI j)), (0, .ref mo), (1, .int (iI c0)), (2, .int (iI x)), (3, .int (iI mn))]) hx hb dMo_printSome_50 hl (by decide) rfl (fun ls hl => ?_)
            refine lv_iinc (k := 1) (lv' := [(5, .int (iI (j + 1))), (4, .int (iI ((wd + r34) + 0))), (0, .ref mo), (1, .int (iI c0)), (2, .int (iI x)), (3, .int (iI mn))]) (v := iI (j + 1)) hx hb dMo_printSome_52 hl rfl (iI_add _ _).symm (by decide) rfl (fun ls hl => ?_)
            refine lv_goto (tgt := 21) hx hb dMo_printSome_55 (by decide) ?_
            exact ih21 ((wd + r34) + 0) (j + 1) H locs ls (by omega) (by rw [prN_s hj.1]; have e9 : (prA (prN st (nwl c0) j.toNat) (st.stk (st.h - 1 - j)) (nwl c0)).pl = (prN st (nwl c0) j.toNat).pl + thW (st.stk (st.h - 1 - j)) + nwl c0 := rfl; omega) (by omega) hP hD hS (lv_sub hl [0, 1, 2, 3, 4, 5] rfl)
    exact L21 _ 0 0 H locs ls (by omega) (by exact ⟨by show 0 = st.pl - st.pl; omega, by omega, by omega⟩) (Nat.lt_succ_self _) hP hD hS (lv_sub hl [0, 1, 2, 3, 4, 5] rfl)
  refine iv_icmp_ne (tgt := 13) hx hb dMo_printSome_3 (by decide) ⟨by omega, by omega⟩ ⟨by decide, by decide⟩ (fun hc3 => ?_) (fun hc3 => ?_)
  · refine lv_iconst (v := iI 1) hx hb dMo_printSome_13 rfl ?_
    refine lv_istore_n (lv' := [(3, .int (iI 1)), (0, .ref mo), (1, .int (iI c0)), (2, .int (iI x))]) hx hb dMo_printSome_14 rfl hl (by decide) rfl (fun ls hl => ?_)
    exact J15 1 H locs ls (by refine ⟨?_, by omega, by omega⟩; unfold mny; (first | (rw [if_pos (by omega)]; omega) | rw [if_neg (by omega)])) hP hD hS (lv_sub hl [1, 2, 3, 0] rfl)
  · refine lv_aload_n hx hb dMo_printSome_6 rfl (lv_at hl 0 rfl) ?_
    refine va_get (D := (dC, dI)) (ci := 7) (v := .int (iI hg)) (C := "MacroReckonerModel") (T := TMo) (N := 23) hx hb hts inMo hown hK hP 0 rfl rfl 8 (by decide) (hts _ wt4_66) (fun _ h9 => h9) rfl dMo_printSome_7 ?_
    refine lv_goto (tgt := 14) hx hb dMo_printSome_10 (by decide) ?_
    refine lv_istore_n (lv' := [(3, .int (iI hg)), (0, .ref mo), (1, .int (iI c0)), (2, .int (iI x))]) hx hb dMo_printSome_14 rfl hl (by decide) rfl (fun ls hl => ?_)
    exact J15 hg H locs ls (by refine ⟨?_, by omega, by omega⟩; unfold mny; (first | (rw [if_pos (by omega)]; omega) | rw [if_neg (by omega)])) hP hD hS (lv_sub hl [1, 2, 3, 0] rfl)
