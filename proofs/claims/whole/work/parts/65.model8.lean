theorem dMo_root_0 : decode prog_9_method_14_code 0 = .ok (.aload_n 0, 1) := by decide +kernel
theorem dMo_root_1 : decode prog_9_method_14_code 1 = .ok (.getfield 47, 3) := by decide +kernel
theorem dMo_root_4 : decode prog_9_method_14_code 4 = .ok (.iconst 2, 1) := by decide +kernel
theorem dMo_root_5 : decode prog_9_method_14_code 5 = .ok (.iconst 0, 1) := by decide +kernel
theorem dMo_root_6 : decode prog_9_method_14_code 6 = .ok (.iastore, 1) := by decide +kernel
theorem dMo_root_7 : decode prog_9_method_14_code 7 = .ok (.aload_n 0, 1) := by decide +kernel
theorem dMo_root_8 : decode prog_9_method_14_code 8 = .ok (.getfield 47, 3) := by decide +kernel
theorem dMo_root_11 : decode prog_9_method_14_code 11 = .ok (.iconst 3, 1) := by decide +kernel
theorem dMo_root_12 : decode prog_9_method_14_code 12 = .ok (.iconst 0, 1) := by decide +kernel
theorem dMo_root_13 : decode prog_9_method_14_code 13 = .ok (.iastore, 1) := by decide +kernel
theorem dMo_root_14 : decode prog_9_method_14_code 14 = .ok (.aload_n 0, 1) := by decide +kernel
theorem dMo_root_15 : decode prog_9_method_14_code 15 = .ok (.getfield 47, 3) := by decide +kernel
theorem dMo_root_18 : decode prog_9_method_14_code 18 = .ok (.iconst 0, 1) := by decide +kernel
theorem dMo_root_19 : decode prog_9_method_14_code 19 = .ok (.iaload, 1) := by decide +kernel
theorem dMo_root_20 : decode prog_9_method_14_code 20 = .ok (.iconst 2, 1) := by decide +kernel
theorem dMo_root_21 : decode prog_9_method_14_code 21 = .ok (.irem, 1) := by decide +kernel
theorem dMo_root_22 : decode prog_9_method_14_code 22 = .ok (.iconst 1, 1) := by decide +kernel
theorem dMo_root_23 : decode prog_9_method_14_code 23 = .ok (.if_icmp .ne 15, 3) := by decide +kernel
theorem dMo_root_26 : decode prog_9_method_14_code 26 = .ok (.aload_n 0, 1) := by decide +kernel
theorem dMo_root_27 : decode prog_9_method_14_code 27 = .ok (.getfield 44, 3) := by decide +kernel
theorem dMo_root_30 : decode prog_9_method_14_code 30 = .ok (.aload_n 0, 1) := by decide +kernel
theorem dMo_root_31 : decode prog_9_method_14_code 31 = .ok (.getfield 47, 3) := by decide +kernel
theorem dMo_root_34 : decode prog_9_method_14_code 34 = .ok (.iconst 0, 1) := by decide +kernel
theorem dMo_root_35 : decode prog_9_method_14_code 35 = .ok (.iaload, 1) := by decide +kernel
theorem dMo_root_36 : decode prog_9_method_14_code 36 = .ok (.iconst 0, 1) := by decide +kernel
theorem dMo_root_37 : decode prog_9_method_14_code 37 = .ok (.iastore, 1) := by decide +kernel
theorem dMo_root_38 : decode prog_9_method_14_code 38 = .ok (.aload_n 0, 1) := by decide +kernel
theorem dMo_root_39 : decode prog_9_method_14_code 39 = .ok (.getfield 47, 3) := by decide +kernel
theorem dMo_root_42 : decode prog_9_method_14_code 42 = .ok (.iconst 0, 1) := by decide +kernel
theorem dMo_root_43 : decode prog_9_method_14_code 43 = .ok (.iaload, 1) := by decide +kernel
theorem dMo_root_44 : decode prog_9_method_14_code 44 = .ok (.iconst 1, 1) := by decide +kernel
theorem dMo_root_45 : decode prog_9_method_14_code 45 = .ok (.iadd, 1) := by decide +kernel
theorem dMo_root_46 : decode prog_9_method_14_code 46 = .ok (.iconst 2, 1) := by decide +kernel
theorem dMo_root_47 : decode prog_9_method_14_code 47 = .ok (.idiv, 1) := by decide +kernel
theorem dMo_root_48 : decode prog_9_method_14_code 48 = .ok (.iconst 1, 1) := by decide +kernel
theorem dMo_root_49 : decode prog_9_method_14_code 49 = .ok (.isub, 1) := by decide +kernel
theorem dMo_root_50 : decode prog_9_method_14_code 50 = .ok (.istore_n 1, 1) := by decide +kernel
theorem dMo_root_51 : decode prog_9_method_14_code 51 = .ok (.iload_n 1, 1) := by decide +kernel
theorem dMo_root_52 : decode prog_9_method_14_code 52 = .ok (.ifCond .lt 109, 3) := by decide +kernel
theorem dMo_root_55 : decode prog_9_method_14_code 55 = .ok (.aload_n 0, 1) := by decide +kernel
theorem dMo_root_56 : decode prog_9_method_14_code 56 = .ok (.iconst 3, 1) := by decide +kernel
theorem dMo_root_57 : decode prog_9_method_14_code 57 = .ok (.iconst (-1), 1) := by decide +kernel
theorem dMo_root_58 : decode prog_9_method_14_code 58 = .ok (.aload_n 0, 1) := by decide +kernel
theorem dMo_root_59 : decode prog_9_method_14_code 59 = .ok (.getfield 44, 3) := by decide +kernel
theorem dMo_root_62 : decode prog_9_method_14_code 62 = .ok (.iconst 2, 1) := by decide +kernel
theorem dMo_root_63 : decode prog_9_method_14_code 63 = .ok (.iload_n 1, 1) := by decide +kernel
theorem dMo_root_64 : decode prog_9_method_14_code 64 = .ok (.imul, 1) := by decide +kernel
theorem dMo_root_65 : decode prog_9_method_14_code 65 = .ok (.iconst 1, 1) := by decide +kernel
theorem dMo_root_66 : decode prog_9_method_14_code 66 = .ok (.iadd, 1) := by decide +kernel
theorem dMo_root_67 : decode prog_9_method_14_code 67 = .ok (.iaload, 1) := by decide +kernel
theorem dMo_root_68 : decode prog_9_method_14_code 68 = .ok (.invokevirtual 58, 3) := by decide +kernel
theorem dMo_root_71 : decode prog_9_method_14_code 71 = .ok (.aload_n 0, 1) := by decide +kernel
theorem dMo_root_72 : decode prog_9_method_14_code 72 = .ok (.iconst 3, 1) := by decide +kernel
theorem dMo_root_73 : decode prog_9_method_14_code 73 = .ok (.iconst (-1), 1) := by decide +kernel
theorem dMo_root_74 : decode prog_9_method_14_code 74 = .ok (.aload_n 0, 1) := by decide +kernel
theorem dMo_root_75 : decode prog_9_method_14_code 75 = .ok (.getfield 44, 3) := by decide +kernel
theorem dMo_root_78 : decode prog_9_method_14_code 78 = .ok (.iconst 2, 1) := by decide +kernel
theorem dMo_root_79 : decode prog_9_method_14_code 79 = .ok (.iload_n 1, 1) := by decide +kernel
theorem dMo_root_80 : decode prog_9_method_14_code 80 = .ok (.imul, 1) := by decide +kernel
theorem dMo_root_81 : decode prog_9_method_14_code 81 = .ok (.iaload, 1) := by decide +kernel
theorem dMo_root_82 : decode prog_9_method_14_code 82 = .ok (.invokevirtual 58, 3) := by decide +kernel
theorem dMo_root_85 : decode prog_9_method_14_code 85 = .ok (.aload_n 0, 1) := by decide +kernel
theorem dMo_root_86 : decode prog_9_method_14_code 86 = .ok (.iconst 1, 1) := by decide +kernel
theorem dMo_root_87 : decode prog_9_method_14_code 87 = .ok (.iconst 2, 1) := by decide +kernel
theorem dMo_root_88 : decode prog_9_method_14_code 88 = .ok (.invokevirtual 70, 3) := by decide +kernel
theorem dMo_root_91 : decode prog_9_method_14_code 91 = .ok (.aload_n 0, 1) := by decide +kernel
theorem dMo_root_92 : decode prog_9_method_14_code 92 = .ok (.iconst 1, 1) := by decide +kernel
theorem dMo_root_93 : decode prog_9_method_14_code 93 = .ok (.iconst 2, 1) := by decide +kernel
theorem dMo_root_94 : decode prog_9_method_14_code 94 = .ok (.invokevirtual 73, 3) := by decide +kernel
theorem dMo_root_97 : decode prog_9_method_14_code 97 = .ok (.aload_n 0, 1) := by decide +kernel
theorem dMo_root_98 : decode prog_9_method_14_code 98 = .ok (.iconst 1, 1) := by decide +kernel
theorem dMo_root_99 : decode prog_9_method_14_code 99 = .ok (.iconst (-1), 1) := by decide +kernel
theorem dMo_root_100 : decode prog_9_method_14_code 100 = .ok (.iconst 1, 1) := by decide +kernel
theorem dMo_root_101 : decode prog_9_method_14_code 101 = .ok (.invokevirtual 58, 3) := by decide +kernel
theorem dMo_root_104 : decode prog_9_method_14_code 104 = .ok (.aload_n 0, 1) := by decide +kernel
theorem dMo_root_105 : decode prog_9_method_14_code 105 = .ok (.iconst 4, 1) := by decide +kernel
theorem dMo_root_106 : decode prog_9_method_14_code 106 = .ok (.iconst 0, 1) := by decide +kernel
theorem dMo_root_107 : decode prog_9_method_14_code 107 = .ok (.invokevirtual 76, 3) := by decide +kernel
theorem dMo_root_110 : decode prog_9_method_14_code 110 = .ok (.aload_n 0, 1) := by decide +kernel
theorem dMo_root_111 : decode prog_9_method_14_code 111 = .ok (.getfield 44, 3) := by decide +kernel
theorem dMo_root_114 : decode prog_9_method_14_code 114 = .ok (.sipush 1360, 3) := by decide +kernel
theorem dMo_root_117 : decode prog_9_method_14_code 117 = .ok (.iconst 2, 1) := by decide +kernel
theorem dMo_root_118 : decode prog_9_method_14_code 118 = .ok (.iastore, 1) := by decide +kernel
theorem dMo_root_119 : decode prog_9_method_14_code 119 = .ok (.iconst 0, 1) := by decide +kernel
theorem dMo_root_120 : decode prog_9_method_14_code 120 = .ok (.istore_n 2, 1) := by decide +kernel
theorem dMo_root_121 : decode prog_9_method_14_code 121 = .ok (.aload_n 0, 1) := by decide +kernel
theorem dMo_root_122 : decode prog_9_method_14_code 122 = .ok (.iconst 3, 1) := by decide +kernel
theorem dMo_root_123 : decode prog_9_method_14_code 123 = .ok (.iconst 1, 1) := by decide +kernel
theorem dMo_root_124 : decode prog_9_method_14_code 124 = .ok (.invokevirtual 62, 3) := by decide +kernel
theorem dMo_root_127 : decode prog_9_method_14_code 127 = .ok (.ifCond .lt 21, 3) := by decide +kernel
theorem dMo_root_130 : decode prog_9_method_14_code 130 = .ok (.aload_n 0, 1) := by decide +kernel
theorem dMo_root_131 : decode prog_9_method_14_code 131 = .ok (.iconst 3, 1) := by decide +kernel
theorem dMo_root_132 : decode prog_9_method_14_code 132 = .ok (.iconst 1, 1) := by decide +kernel
theorem dMo_root_133 : decode prog_9_method_14_code 133 = .ok (.invokevirtual 66, 3) := by decide +kernel
theorem dMo_root_136 : decode prog_9_method_14_code 136 = .ok (.aload_n 0, 1) := by decide +kernel
theorem dMo_root_137 : decode prog_9_method_14_code 137 = .ok (.iconst 1, 1) := by decide +kernel
theorem dMo_root_138 : decode prog_9_method_14_code 138 = .ok (.iconst 4, 1) := by decide +kernel
theorem dMo_root_139 : decode prog_9_method_14_code 139 = .ok (.invokevirtual 73, 3) := by decide +kernel
theorem dMo_root_142 : decode prog_9_method_14_code 142 = .ok (.iinc 2 1, 3) := by decide +kernel
theorem dMo_root_145 : decode prog_9_method_14_code 145 = .ok (.goto (-24), 3) := by decide +kernel
theorem dMo_root_148 : decode prog_9_method_14_code 148 = .ok (.aload_n 0, 1) := by decide +kernel
theorem dMo_root_149 : decode prog_9_method_14_code 149 = .ok (.iconst 2, 1) := by decide +kernel
theorem dMo_root_150 : decode prog_9_method_14_code 150 = .ok (.iconst (-1), 1) := by decide +kernel
theorem dMo_root_151 : decode prog_9_method_14_code 151 = .ok (.iload_n 2, 1) := by decide +kernel
theorem dMo_root_152 : decode prog_9_method_14_code 152 = .ok (.invokevirtual 58, 3) := by decide +kernel
theorem dMo_root_155 : decode prog_9_method_14_code 155 = .ok (.iinc 1 (-1), 3) := by decide +kernel
theorem dMo_root_158 : decode prog_9_method_14_code 158 = .ok (.goto (-107), 3) := by decide +kernel
theorem dMo_root_161 : decode prog_9_method_14_code 161 = .ok (.return_, 1) := by decide +kernel
abbrev qMo_root (dC : Nat → ClassId) (dI : Nat → Nat → Nat) (dA : Nat → ClassId) (mo : Nat) (ft : Int) (lf : Int) (hg : Int) (kk : Int) (tx : Int) (pn : Int) (tk : Int) (fm : Int) (tO : Int) (tl : Int) (mI : Int → Int) (mT : Int → Int) (mS : Int → Int) (mC : Int → Int) (mL : Int → Int) (mB : Int → Int) (mF : Int → Int) (mU : Int → Int) (mX : Int → Int) (mP : Int → Int) (mK : Int → Int) (mD : Int → Int) (mZ : Int → Int) (N : Int) (A : Nat → Prop) : Array Value → State → Outcome → State → Prop := QV (dC, dI) vwCl (tyA dA) (fun (v_ : (Int → Int) × (Int → Int) × Int) => MR v_.1 v_.2.1 2 v_.2.2 ∧ isq v_.2.2 N) (fun (v_ : (Int → Int) × (Int → Int) × Int) => wMo dA mo ft lf hg kk tx pn tk fm tO tl mI mT mS mC mL mB mF mU mX mP mK v_.1 v_.2.1 []) A
abbrev rmMo_root : Room := { frames := 2, cells := 0, slots := 0, locals := 47 }
set_option maxRecDepth 100000 in
set_option maxHeartbeats 1000000 in
theorem cMo_root (l : Launch) (dC : Nat → ClassId) (dI : Nat → Nat → Nat) (dA : Nat → ClassId) (mo : Nat) (ft : Int) (lf : Int) (hg : Int) (kk : Int) (tx : Int) (pn : Int) (tk : Int) (fm : Int) (tO : Int) (tl : Int) (mI : Int → Int) (mT : Int → Int) (mS : Int → Int) (mC : Int → Int) (mL : Int → Int) (mB : Int → Int) (mF : Int → Int) (mU : Int → Int) (mX : Int → Int) (mP : Int → Int) (mK : Int → Int) (mD : Int → Int) (mZ : Int → Int) (N : Int) (hM : MR mD mZ 0 N) (hN9 : N < PW 10 200) (sz : Nat) : Met l yMo_root wsMo_root rmMo_root (PC (dC, dI) vwCl (tyA dA) XN [.ref mo] (wMo dA mo ft lf hg kk tx pn tk fm tO tl mI mT mS mC mL mB mF mU mX mP mK mD mZ []) sz) (qMo_root dC dI dA mo ft lf hg kk tx pn tk fm tO tl mI mT mS mC mL mB mF mU mX mP mK mD mZ N (va_A (wMo dA mo ft lf hg kk tx pn tk fm tO tl mI mT mS mC mL mB mF mU mX mP mK mD mZ []) sz)) 0 0 (va_A (wMo dA mo ft lf hg kk tx pn tk fm tO tl mI mT mS mC mL mB mF mU mX mP mK mD mZ []) sz) := by
  refine met_of (cc := prog_9_method_14_code) (maxL := 3) (ret := none) (Qc := qMo_root dC dI dA mo ft lf hg kk tx pn tk fm tO tl mI mT mS mC mL mB mF mU mX mP mK mD mZ N) XN_ok (by decide) rfl (Nat.le_of_ble_eq_true rfl) ?_
  intro p e s m below meth c ls A hx hb hr hml hown hts hlocks hnm hK hP hD hA hX hS hl
  have hl : lv_has ls 3 [(0, .ref mo)] := hl
  have hown : s.vm.findClass "MacroReckonerModel" = some m.cls := hown
  obtain ⟨H, hH⟩ : ∃ H : Heap, H = s.heap := ⟨_, rfl⟩
  obtain ⟨locs, hlo⟩ : ∃ L : List Loc, L = [] := ⟨_, rfl⟩
  have hP : va_P (dC, dI) vwCl (wMo dA mo ft lf hg kk tx pn tk fm tO tl mI mT mS mC mL mB mF mU mX mP mK mD mZ []) H := hH ▸ hP
  have hS : va_S A s.heap H locs := by rw [hH, hlo]; exact hS
  suffices hgo : W p l e rmMo_root s m [.ref mo].toArray below meth c H locs 0 0 (MQ below (qMo_root dC dI dA mo ft lf hg kk tx pn tk fm tO tl mI mT mS mC mL mB mF mU mX mP mK mD mZ N A) [.ref mo].toArray s 0 0 A) (F0 m 0 ls []) by rw [hH, hlo] at hgo; exact hgo
  clear hH hlo
  have hz := hM.1.1
  have hz0 : mZ 0 ≤ 200 := M_sz hM hN9 (by decide)
  have hN0 := M_nn hM
  refine lv_aload_n hx hb dMo_root_0 rfl (lv_at hl 0 rfl) ?_
  refine va_get (D := (dC, dI)) (ci := 7) (v := .ref (mo + 13)) (C := "MacroReckonerModel") (T := TMo) (N := 23) hx hb hts inMo hown hK hP 0 rfl rfl 22 (by decide) (hts _ wt4_80) (fun _ h9 => h9) rfl dMo_root_1 ?_
  refine lv_iconst (v := iI 2) hx hb dMo_root_4 rfl ?_
  refine lv_iconst (v := iI 0) hx hb dMo_root_5 rfl ?_
  refine iv_iast (v := 0) hx hb hK hP hD hS 13 0 rfl rfl (by decide) dMo_root_6 (by omega) (by omega) (fun H locs hP hD hS => ?_)
  have hP : va_P (dC, dI) vwCl (wMo dA mo ft lf hg kk tx pn tk fm tO tl mI mT mS mC mL mB mF mU mX mP mK mD (up mZ 2 0) []) H := hP
  have hD : va_D A (wMo dA mo ft lf hg kk tx pn tk fm tO tl mI mT mS mC mL mB mF mU mX mP mK mD (up mZ 2 0) []) := hD
  refine lv_aload_n hx hb dMo_root_7 rfl (lv_at hl 0 rfl) ?_
  refine va_get (D := (dC, dI)) (ci := 7) (v := .ref (mo + 13)) (C := "MacroReckonerModel") (T := TMo) (N := 23) hx hb hts inMo hown hK hP 0 rfl rfl 22 (by decide) (hts _ wt4_80) (fun _ h9 => h9) rfl dMo_root_8 ?_
  refine lv_iconst (v := iI 3) hx hb dMo_root_11 rfl ?_
  refine lv_iconst (v := iI 0) hx hb dMo_root_12 rfl ?_
  refine iv_iast (v := 0) hx hb hK hP hD hS 13 0 rfl rfl (by decide) dMo_root_13 (by omega) (by omega) (fun H locs hP hD hS => ?_)
  have hP : va_P (dC, dI) vwCl (wMo dA mo ft lf hg kk tx pn tk fm tO tl mI mT mS mC mL mB mF mU mX mP mK mD (up (up mZ 2 0) 3 0) []) H := hP
  have hD : va_D A (wMo dA mo ft lf hg kk tx pn tk fm tO tl mI mT mS mC mL mB mF mU mX mP mK mD (up (up mZ 2 0) 3 0) []) := hD
  have hu0 : up (up mZ 2 0) 3 0 0 = mZ 0 := by rw [up_n (by decide), up_n (by decide)]
  refine lv_aload_n hx hb dMo_root_14 rfl (lv_at hl 0 rfl) ?_
  refine va_get (D := (dC, dI)) (ci := 7) (v := .ref (mo + 13)) (C := "MacroReckonerModel") (T := TMo) (N := 23) hx hb hts inMo hown hK hP 0 rfl rfl 22 (by decide) (hts _ wt4_80) (fun _ h9 => h9) rfl dMo_root_15 ?_
  refine lv_iconst (v := iI 0) hx hb dMo_root_18 rfl ?_
  refine iv_iald hx hb hK hP 13 0 rfl rfl (by decide) dMo_root_19 (by omega) (by omega) ?_
  refine lv_iconst (v := iI 2) hx hb dMo_root_20 rfl ?_
  refine iv_irem hx hb dMo_root_21 (by omega) ⟨by omega, by omega⟩ (by omega) ⟨by decide, by decide⟩ ?_
  refine lv_iconst (v := iI 1) hx hb dMo_root_22 rfl ?_
  have J38 : ∀ (D5 : Int → Int) (H : Heap) (locs : List Loc) (ls : Array Slot), (rdJ D5 N ((mZ 0 + 1) / 2)) → va_P (dC, dI) vwCl (wMo dA mo ft lf hg kk tx pn tk fm tO tl mI mT mS mC mL mB mF mU mX mP mK D5 (up (up mZ 2 0) 3 0) []) H → va_D A (wMo dA mo ft lf hg kk tx pn tk fm tO tl mI mT mS mC mL mB mF mU mX mP mK D5 (up (up mZ 2 0) 3 0) []) → va_S A s.heap H locs → lv_has ls 3 [(0, .ref mo)] → W p l e rmMo_root s m [.ref mo].toArray below meth c H locs 0 0 (MQ below (qMo_root dC dI dA mo ft lf hg kk tx pn tk fm tO tl mI mT mS mC mL mB mF mU mX mP mK mD mZ N A) [.ref mo].toArray s 0 0 A) (F0 m 38 ls []) := by
    intro D5 H locs ls hR5 hP hD hS hl
    refine lv_aload_n hx hb dMo_root_38 rfl (lv_at hl 0 rfl) ?_
    refine va_get (D := (dC, dI)) (ci := 7) (v := .ref (mo + 13)) (C := "MacroReckonerModel") (T := TMo) (N := 23) hx hb hts inMo hown hK hP 0 rfl rfl 22 (by decide) (hts _ wt4_80) (fun _ h9 => h9) rfl dMo_root_39 ?_
    refine lv_iconst (v := iI 0) hx hb dMo_root_42 rfl ?_
    refine iv_iald hx hb hK hP 13 0 rfl rfl (by decide) dMo_root_43 (by omega) (by omega) ?_
    refine lv_iconst (v := iI 1) hx hb dMo_root_44 rfl ?_
    refine iv_iadd hx hb dMo_root_45 ?_
    refine lv_iconst (v := iI 2) hx hb dMo_root_46 rfl ?_
    refine iv_idiv hx hb dMo_root_47 (by omega) ⟨by omega, by omega⟩ (by omega) ⟨by decide, by decide⟩ ?_
    refine lv_iconst (v := iI 1) hx hb dMo_root_48 rfl ?_
    refine iv_isub hx hb dMo_root_49 ?_
    refine lv_istore_n (lv' := [(1, .int (iI ((((((up (up mZ 2 0) 3 0)) 0) + 1) / 2) - 1))), (0, .ref mo)]) hx hb dMo_root_50 rfl hl (by decide) rfl (fun ls hl => ?_)
    have L51 : ∀ (n : Nat) (D9 : Int → Int) (Z9 : Int → Int) (d : Int) (s9 : Int) (H : Heap) (locs : List Loc) (ls : Array Slot), (rqJ D5 N ((mZ 0 + 1) / 2) D9 Z9 d s9) → (d + 1).toNat < n → va_P (dC, dI) vwCl (wMo dA mo ft lf hg kk tx pn tk fm tO tl mI mT mS mC mL mB mF mU mX mP mK D9 Z9 []) H → va_D A (wMo dA mo ft lf hg kk tx pn tk fm tO tl mI mT mS mC mL mB mF mU mX mP mK D9 Z9 []) → va_S A s.heap H locs → lv_has ls 3 [(1, .int (iI d)), (0, .ref mo)] → W p l e rmMo_root s m [.ref mo].toArray below meth c H locs 0 0 (MQ below (qMo_root dC dI dA mo ft lf hg kk tx pn tk fm tO tl mI mT mS mC mL mB mF mU mX mP mK mD mZ N A) [.ref mo].toArray s 0 0 A) (F0 m 51 ls []) := by
      intro n
      induction n with
      | zero => intro D9 Z9 d s9 H locs ls hJ hn; omega
      | succ n ih =>
        intro D9 Z9 d s9 H locs ls hJ hn hP hD hS hl
        have hd := hJ.1
        have ih51 := ih
        refine lv_iload_n hx hb dMo_root_51 rfl (lv_at hl 0 rfl) ?_
        refine iv_if_lt (tgt := 161) hx hb dMo_root_52 (by decide) ⟨by omega, by omega⟩ (fun hc52 => ?_) (fun hc52 => ?_)
        · exact rt_v hx hb hr hlocks hK hS dMo_root_161 (D9, Z9, s9) hP hD (show MR D9 Z9 2 s9 ∧ isq s9 N from by exact ⟨hJ.2.1, rq_e hJ (by omega)⟩)
        · obtain ⟨hb1, hb2, hb3, hb4, hb5, hb6, hb7, hb8, hb9, hb10⟩ := rq_b hJ hR5 (by omega) hN0 hN9 (by omega)
          refine lv_aload_n hx hb dMo_root_55 rfl (lv_at hl 1 rfl) ?_
          refine lv_iconst (v := iI 3) hx hb dMo_root_56 rfl ?_
          refine lv_iconst (v := iI (-1)) hx hb dMo_root_57 rfl ?_
          refine lv_aload_n hx hb dMo_root_58 rfl (lv_at hl 1 rfl) ?_
          refine va_get (D := (dC, dI)) (ci := 7) (v := .ref (mo + 12)) (C := "MacroReckonerModel") (T := TMo) (N := 23) hx hb hts inMo hown hK hP 0 rfl rfl 21 (by decide) (hts _ wt4_79) (fun _ h9 => h9) rfl dMo_root_59 ?_
          refine lv_iconst (v := iI 2) hx hb dMo_root_62 rfl ?_
          refine lv_iload_n hx hb dMo_root_63 rfl (lv_at hl 0 rfl) ?_
          refine iv_imul hx hb dMo_root_64 ?_
          refine lv_iconst (v := iI 1) hx hb dMo_root_65 rfl ?_
          refine iv_iadd hx hb dMo_root_66 ?_
          refine iv_iald hx hb hK hP 12 0 rfl rfl (by decide) dMo_root_67 (by omega) (by omega) ?_
          refine cv_v (va_runV (C := "MacroReckonerModel") (As := [.int (iI 3), .int (iI (-1)), .int (iI (D9 ((2 * d) + 1)))]) (rest := []) ⟨hx, hb, hml, hown, hts⟩ (cMo_append l dC dI dA mo ft lf hg kk tx pn tk fm tO tl mI mT mS mC mL mB mF mU mX mP mK D9 Z9 3 (-1) (D9 ((2 * d) + 1)) (N / PW 10 (2 * (d + 1)) - s9 * s9) (by omega) (by omega) (by exact hJ.2.2.2.1) H.size) (cwV 3 hts (gdV wt4_187 wt4_189 ws4_1 wt1_8 wt4_190) rfl rfl rfl ⟨rfl, by decide, by decide, by decide +kernel⟩ ⟨by decide, by decide⟩) (preV (q := ("MacroReckonerModel", TMo, 23)) hK hP hD hS hA XN_ok trivial [0, 1, 2, 3, 4, 5, 6, 7, 8, 9, 10, 11, 12, 13] rfl rfl 0 rfl rfl) rfl rfl hl.1 rfl (lv_room (Nat.le_of_ble_eq_true rfl)) dMo_root_68 ⟨Nat.zero_le _, Nat.zero_le _⟩) hP hD hS hA [0, 1, 2, 3, 4, 5, 6, 7, 8, 9, 10, 11, 12, 13] [] rfl (fun v_ => wMo dA mo ft lf hg kk tx pn tk fm tO tl mI mT mS mC mL mB mF mU mX mP mK v_.1 v_.2 []) (fun _ => rfl) ([] : va_W) rfl (fun _ => rfl) [mo, mo + 1, mo + 2, mo + 3, mo + 4, mo + 5, mo + 6, mo + 7, mo + 8, mo + 9, mo + 10, mo + 11, mo + 12, mo + 13] rfl (fun _ => rfl) (fun _ => rfl) (fun u_ H locs hq68 hP hD hS => ?_)
          obtain ⟨D1_68, Z1_68⟩ := u_
          have hP : va_P (dC, dI) vwCl (wMo dA mo ft lf hg kk tx pn tk fm tO tl mI mT mS mC mL mB mF mU mX mP mK D1_68 Z1_68 []) H := hP
          have hD : va_D A (wMo dA mo ft lf hg kk tx pn tk fm tO tl mI mT mS mC mL mB mF mU mX mP mK D1_68 Z1_68 []) := hD
          have hq68 : (((-1) < 0 ∧ MR D1_68 Z1_68 3 ((N / PW 10 (2 * (d + 1)) - s9 * s9) * 10 + (D9 ((2 * d) + 1)))) ∨ (0 ≤ (-1) ∧ MR D1_68 Z1_68 3 ((N / PW 10 (2 * (d + 1)) - s9 * s9) * PW 10 (-1)))) ∧ others D9 Z9 D1_68 Z1_68 3 := hq68
          have hA9 := (hq68.1.resolve_right (fun z => by omega)).2
          rw [hb1] at hA9
          have hzA : Z1_68 3 ≤ 200 := M_sz hA9 (by omega) (by decide)
          have hgd : D1_68 (2 * d) = D5 (2 * d) := by rw [hq68.2.1 _ (by omega)]; exact hb2
          refine lv_aload_n hx hb dMo_root_71 rfl (lv_at hl 1 rfl) ?_
          refine lv_iconst (v := iI 3) hx hb dMo_root_72 rfl ?_
          refine lv_iconst (v := iI (-1)) hx hb dMo_root_73 rfl ?_
          refine lv_aload_n hx hb dMo_root_74 rfl (lv_at hl 1 rfl) ?_
          refine va_get (D := (dC, dI)) (ci := 7) (v := .ref (mo + 12)) (C := "MacroReckonerModel") (T := TMo) (N := 23) hx hb hts inMo hown hK hP 0 rfl rfl 21 (by decide) (hts _ wt4_79) (fun _ h9 => h9) rfl dMo_root_75 ?_
          refine lv_iconst (v := iI 2) hx hb dMo_root_78 rfl ?_
          refine lv_iload_n hx hb dMo_root_79 rfl (lv_at hl 0 rfl) ?_
          refine iv_imul hx hb dMo_root_80 ?_
          refine iv_iald hx hb hK hP 12 0 rfl rfl (by decide) dMo_root_81 (by omega) (by omega) ?_
          refine cv_v (va_runV (C := "MacroReckonerModel") (As := [.int (iI 3), .int (iI (-1)), .int (iI (D1_68 (2 * d)))]) (rest := []) ⟨hx, hb, hml, hown, hts⟩ (cMo_append l dC dI dA mo ft lf hg kk tx pn tk fm tO tl mI mT mS mC mL mB mF mU mX mP mK D1_68 Z1_68 3 (-1) (D1_68 (2 * d)) ((N / PW 10 (2 * (d + 1)) - s9 * s9) * 10 + D5 (2 * d + 1)) (by omega) (by omega) (by exact hA9) H.size) (cwV 3 hts (gdV wt4_187 wt4_189 ws4_1 wt1_8 wt4_190) rfl rfl rfl ⟨rfl, by decide, by decide, by decide +kernel⟩ ⟨by decide, by decide⟩) (preV (q := ("MacroReckonerModel", TMo, 23)) hK hP hD hS hA XN_ok trivial [0, 1, 2, 3, 4, 5, 6, 7, 8, 9, 10, 11, 12, 13] rfl rfl 0 rfl rfl) rfl rfl hl.1 rfl (lv_room (Nat.le_of_ble_eq_true rfl)) dMo_root_82 ⟨Nat.zero_le _, Nat.zero_le _⟩) hP hD hS hA [0, 1, 2, 3, 4, 5, 6, 7, 8, 9, 10, 11, 12, 13] [] rfl (fun v_ => wMo dA mo ft lf hg kk tx pn tk fm tO tl mI mT mS mC mL mB mF mU mX mP mK v_.1 v_.2 []) (fun _ => rfl) ([] : va_W) rfl (fun _ => rfl) [mo, mo + 1, mo + 2, mo + 3, mo + 4, mo + 5, mo + 6, mo + 7, mo + 8, mo + 9, mo + 10, mo + 11, mo + 12, mo + 13] rfl (fun _ => rfl) (fun _ => rfl) (fun u_ H locs hq82 hP hD hS => ?_)
          obtain ⟨D1_82, Z1_82⟩ := u_
          have hP : va_P (dC, dI) vwCl (wMo dA mo ft lf hg kk tx pn tk fm tO tl mI mT mS mC mL mB mF mU mX mP mK D1_82 Z1_82 []) H := hP
          have hD : va_D A (wMo dA mo ft lf hg kk tx pn tk fm tO tl mI mT mS mC mL mB mF mU mX mP mK D1_82 Z1_82 []) := hD
          have hq82 : (((-1) < 0 ∧ MR D1_82 Z1_82 3 (((N / PW 10 (2 * (d + 1)) - s9 * s9) * 10 + D5 (2 * d + 1)) * 10 + (D1_68 (2 * d)))) ∨ (0 ≤ (-1) ∧ MR D1_82 Z1_82 3 (((N / PW 10 (2 * (d + 1)) - s9 * s9) * 10 + D5 (2 * d + 1)) * PW 10 (-1)))) ∧ others D1_68 Z1_68 D1_82 Z1_82 3 := hq82
          have hB9 := (hq82.1.resolve_right (fun z => by omega)).2
          rw [hgd] at hB9
          have h2B := MR_o hq82.2 (by decide) (MR_o hq68.2 (by decide) hJ.2.1)
          refine lv_aload_n hx hb dMo_root_85 rfl (lv_at hl 1 rfl) ?_
          refine lv_iconst (v := iI 1) hx hb dMo_root_86 rfl ?_
          refine lv_iconst (v := iI 2) hx hb dMo_root_87 rfl ?_
          refine cv_v (va_runV (C := "MacroReckonerModel") (As := [.int (iI 1), .int (iI 2)]) (rest := []) ⟨hx, hb, hml, hown, hts⟩ (cMo_copy l dC dI dA mo ft lf hg kk tx pn tk fm tO tl mI mT mS mC mL mB mF mU mX mP mK D1_82 Z1_82 1 2 s9 (by omega) (by exact h2B) H.size) (cwV 2 hts (gdV wt5_57 wt5_59 ws5_11 wt1_8 wt5_60) rfl rfl rfl ⟨rfl, by decide, by decide, by decide +kernel⟩ ⟨by decide, by decide⟩) (preV (q := ("MacroReckonerModel", TMo, 23)) hK hP hD hS hA XN_ok trivial [0, 1, 2, 3, 4, 5, 6, 7, 8, 9, 10, 11, 12, 13] rfl rfl 0 rfl rfl) rfl rfl hl.1 rfl (lv_room (Nat.le_of_ble_eq_true rfl)) dMo_root_88 ⟨Nat.zero_le _, Nat.zero_le _⟩) hP hD hS hA [0, 1, 2, 3, 4, 5, 6, 7, 8, 9, 10, 11, 12, 13] [] rfl (fun v_ => wMo dA mo ft lf hg kk tx pn tk fm tO tl mI mT mS mC mL mB mF mU mX mP mK v_.1 v_.2 []) (fun _ => rfl) ([] : va_W) rfl (fun _ => rfl) [mo, mo + 1, mo + 2, mo + 3, mo + 4, mo + 5, mo + 6, mo + 7, mo + 8, mo + 9, mo + 10, mo + 11, mo + 12, mo + 13] rfl (fun _ => rfl) (fun _ => rfl) (fun u_ H locs hq88 hP hD hS => ?_)
          obtain ⟨D1_88, Z1_88⟩ := u_
          have hP : va_P (dC, dI) vwCl (wMo dA mo ft lf hg kk tx pn tk fm tO tl mI mT mS mC mL mB mF mU mX mP mK D1_88 Z1_88 []) H := hP
          have hD : va_D A (wMo dA mo ft lf hg kk tx pn tk fm tO tl mI mT mS mC mL mB mF mU mX mP mK D1_88 Z1_88 []) := hD
          have hq88 : MR D1_88 Z1_88 1 s9 ∧ others D1_82 Z1_82 D1_88 Z1_88 1 := hq88
          have h3C := MR_o hq88.2 (by decide) hB9
          have h2C := MR_o hq88.2 (by decide) h2B
          have hzC : Z1_88 1 ≤ 200 ∧ Z1_88 2 ≤ 200 := ⟨M_sz hq88.1 (by omega) (by decide), M_sz h2C (by omega) (by decide)⟩
          refine lv_aload_n hx hb dMo_root_91 rfl (lv_at hl 1 rfl) ?_
          refine lv_iconst (v := iI 1) hx hb dMo_root_92 rfl ?_
          refine lv_iconst (v := iI 2) hx hb dMo_root_93 rfl ?_
          refine cv_v (va_runV (C := "MacroReckonerModel") (As := [.int (iI 1), .int (iI 2)]) (rest := []) ⟨hx, hb, hml, hown, hts⟩ (cMo_increase l dC dI dA mo ft lf hg kk tx pn tk fm tO tl mI mT mS mC mL mB mF mU mX mP mK D1_88 Z1_88 1 2 s9 s9 (by omega) (by exact hq88.1) (by exact h2C) (by omega) H.size) (cwV 2 hts (gdV wt5_13 wt5_15 ws5_0 wt1_8 wt5_16) rfl rfl rfl ⟨rfl, by decide, by decide, by decide +kernel⟩ ⟨by decide, by decide⟩) (preV (q := ("MacroReckonerModel", TMo, 23)) hK hP hD hS hA XN_ok trivial [0, 1, 2, 3, 4, 5, 6, 7, 8, 9, 10, 11, 12, 13] rfl rfl 0 rfl rfl) rfl rfl hl.1 rfl (lv_room (Nat.le_of_ble_eq_true rfl)) dMo_root_94 ⟨Nat.zero_le _, Nat.zero_le _⟩) hP hD hS hA [0, 1, 2, 3, 4, 5, 6, 7, 8, 9, 10, 11, 12, 13] [] rfl (fun v_ => wMo dA mo ft lf hg kk tx pn tk fm tO tl mI mT mS mC mL mB mF mU mX mP mK v_.1 v_.2 []) (fun _ => rfl) ([] : va_W) rfl (fun _ => rfl) [mo, mo + 1, mo + 2, mo + 3, mo + 4, mo + 5, mo + 6, mo + 7, mo + 8, mo + 9, mo + 10, mo + 11, mo + 12, mo + 13] rfl (fun _ => rfl) (fun _ => rfl) (fun u_ H locs hq94 hP hD hS => ?_)
          obtain ⟨D1_94, Z1_94⟩ := u_
          have hP : va_P (dC, dI) vwCl (wMo dA mo ft lf hg kk tx pn tk fm tO tl mI mT mS mC mL mB mF mU mX mP mK D1_94 Z1_94 []) H := hP
          have hD : va_D A (wMo dA mo ft lf hg kk tx pn tk fm tO tl mI mT mS mC mL mB mF mU mX mP mK D1_94 Z1_94 []) := hD
          have hq94 : MR D1_94 Z1_94 1 (s9 + s9) ∧ others D1_88 Z1_88 D1_94 Z1_94 1 := hq94
          have h3E := MR_o hq94.2 (by decide) h3C
          have h2E := MR_o hq94.2 (by decide) h2C
          have hzE : Z1_94 1 ≤ 201 := M_sz hq94.1 (by have h := PW_s (b := 10) (i := 200) (by decide); rw [show (200 : Int) + 1 = 201 from rfl] at h; omega) (by decide)
          refine lv_aload_n hx hb dMo_root_97 rfl (lv_at hl 1 rfl) ?_
          refine lv_iconst (v := iI 1) hx hb dMo_root_98 rfl ?_
          refine lv_iconst (v := iI (-1)) hx hb dMo_root_99 rfl ?_
          refine lv_iconst (v := iI 1) hx hb dMo_root_100 rfl ?_
          refine cv_v (va_runV (C := "MacroReckonerModel") (As := [.int (iI 1), .int (iI (-1)), .int (iI 1)]) (rest := []) ⟨hx, hb, hml, hown, hts⟩ (cMo_append l dC dI dA mo ft lf hg kk tx pn tk fm tO tl mI mT mS mC mL mB mF mU mX mP mK D1_94 Z1_94 1 (-1) 1 (s9 + s9) (by omega) (by omega) (by exact hq94.1) H.size) (cwV 3 hts (gdV wt4_187 wt4_189 ws4_1 wt1_8 wt4_190) rfl rfl rfl ⟨rfl, by decide, by decide, by decide +kernel⟩ ⟨by decide, by decide⟩) (preV (q := ("MacroReckonerModel", TMo, 23)) hK hP hD hS hA XN_ok trivial [0, 1, 2, 3, 4, 5, 6, 7, 8, 9, 10, 11, 12, 13] rfl rfl 0 rfl rfl) rfl rfl hl.1 rfl (lv_room (Nat.le_of_ble_eq_true rfl)) dMo_root_101 ⟨Nat.zero_le _, Nat.zero_le _⟩) hP hD hS hA [0, 1, 2, 3, 4, 5, 6, 7, 8, 9, 10, 11, 12, 13] [] rfl (fun v_ => wMo dA mo ft lf hg kk tx pn tk fm tO tl mI mT mS mC mL mB mF mU mX mP mK v_.1 v_.2 []) (fun _ => rfl) ([] : va_W) rfl (fun _ => rfl) [mo, mo + 1, mo + 2, mo + 3, mo + 4, mo + 5, mo + 6, mo + 7, mo + 8, mo + 9, mo + 10, mo + 11, mo + 12, mo + 13] rfl (fun _ => rfl) (fun _ => rfl) (fun u_ H locs hq101 hP hD hS => ?_)
          obtain ⟨D1_101, Z1_101⟩ := u_
          have hP : va_P (dC, dI) vwCl (wMo dA mo ft lf hg kk tx pn tk fm tO tl mI mT mS mC mL mB mF mU mX mP mK D1_101 Z1_101 []) H := hP
          have hD : va_D A (wMo dA mo ft lf hg kk tx pn tk fm tO tl mI mT mS mC mL mB mF mU mX mP mK D1_101 Z1_101 []) := hD
          have hq101 : (((-1) < 0 ∧ MR D1_101 Z1_101 1 ((s9 + s9) * 10 + 1)) ∨ (0 ≤ (-1) ∧ MR D1_101 Z1_101 1 ((s9 + s9) * PW 10 (-1)))) ∧ others D1_94 Z1_94 D1_101 Z1_101 1 := hq101
          have h1G := (hq101.1.resolve_right (fun z => by omega)).2
          have h3G := MR_o hq101.2 (by decide) h3E
          have h2G := MR_o hq101.2 (by decide) h2E
          refine lv_aload_n hx hb dMo_root_104 rfl (lv_at hl 1 rfl) ?_
          refine lv_iconst (v := iI 4) hx hb dMo_root_105 rfl ?_
          refine lv_iconst (v := iI 0) hx hb dMo_root_106 rfl ?_
          refine cv_v (va_runV (C := "MacroReckonerModel") (As := [.int (iI 4), .int (iI 0)]) (rest := []) ⟨hx, hb, hml, hown, hts⟩ (cMo_unit l dC dI dA mo ft lf hg kk tx pn tk fm tO tl mI mT mS mC mL mB mF mU mX mP mK D1_101 Z1_101 4 0 (by omega) (by omega) H.size) (cwV 2 hts (gdV wt5_53 wt5_55 ws5_10 wt1_8 wt5_56) rfl rfl rfl ⟨rfl, by decide, by decide, by decide +kernel⟩ ⟨by decide, by decide⟩) (preV (q := ("MacroReckonerModel", TMo, 23)) hK hP hD hS hA XN_ok trivial [0, 1, 2, 3, 4, 5, 6, 7, 8, 9, 10, 11, 12, 13] rfl rfl 0 rfl rfl) rfl rfl hl.1 rfl (lv_room (Nat.le_of_ble_eq_true rfl)) dMo_root_107 ⟨Nat.zero_le _, Nat.zero_le _⟩) hP hD hS hA [0, 1, 2, 3, 4, 5, 6, 7, 8, 9, 10, 11, 12, 13] [] rfl (fun v_ => wMo dA mo ft lf hg kk tx pn tk fm tO tl mI mT mS mC mL mB mF mU mX mP mK v_.1 v_.2 []) (fun _ => rfl) ([] : va_W) rfl (fun _ => rfl) [mo, mo + 1, mo + 2, mo + 3, mo + 4, mo + 5, mo + 6, mo + 7, mo + 8, mo + 9, mo + 10, mo + 11, mo + 12, mo + 13] rfl (fun _ => rfl) (fun _ => rfl) (fun u_ H locs hq107 hP hD hS => ?_)
          obtain ⟨D1_107, Z1_107⟩ := u_
          have hP : va_P (dC, dI) vwCl (wMo dA mo ft lf hg kk tx pn tk fm tO tl mI mT mS mC mL mB mF mU mX mP mK D1_107 Z1_107 []) H := hP
          have hD : va_D A (wMo dA mo ft lf hg kk tx pn tk fm tO tl mI mT mS mC mL mB mF mU mX mP mK D1_107 Z1_107 []) := hD
          have hq107 : MR D1_107 Z1_107 4 (PW 10 0) ∧ others D1_101 Z1_101 D1_107 Z1_107 4 := hq107
          have h1H := MR_o hq107.2 (by decide) h1G
          have h3H := MR_o hq107.2 (by decide) h3G
          have h2H := MR_o hq107.2 (by decide) h2G
          refine lv_aload_n hx hb dMo_root_110 rfl (lv_at hl 1 rfl) ?_
          refine va_get (D := (dC, dI)) (ci := 7) (v := .ref (mo + 12)) (C := "MacroReckonerModel") (T := TMo) (N := 23) hx hb hts inMo hown hK hP 0 rfl rfl 21 (by decide) (hts _ wt4_79) (fun _ h9 => h9) rfl dMo_root_111 ?_
          refine lv_sipush (v := iI 1360) hx hb dMo_root_114 (by decide) ?_
          refine lv_iconst (v := iI 2) hx hb dMo_root_117 rfl ?_
          refine iv_iast (v := 2) hx hb hK hP hD hS 12 0 rfl rfl (by decide) dMo_root_118 (by omega) (by omega) (fun H locs hP hD hS => ?_)
          have hP : va_P (dC, dI) vwCl (wMo dA mo ft lf hg kk tx pn tk fm tO tl mI mT mS mC mL mB mF mU mX mP mK (up D1_107 1360 2) Z1_107 []) H := hP
          have hD : va_D A (wMo dA mo ft lf hg kk tx pn tk fm tO tl mI mT mS mC mL mB mF mU mX mP mK (up D1_107 1360 2) Z1_107 []) := hD
          have h4I := two_e hq107.1
          have h1I : MR (up D1_107 1360 2) Z1_107 1 ((s9 + s9) * 10 + 1) := MR_f h1H (fun t x y => up_n (by omega)) rfl
          have h2I : MR (up D1_107 1360 2) Z1_107 2 s9 := MR_f h2H (fun t x y => up_n (by omega)) rfl
          have h3I : MR (up D1_107 1360 2) Z1_107 3 (((N / PW 10 (2 * (d + 1)) - s9 * s9) * 10 + D5 (2 * d + 1)) * 10 + D5 (2 * d)) := MR_f h3H (fun t x y => up_n (by omega)) rfl
          have hDI : ∀ t, 0 ≤ t → t < 340 → up D1_107 1360 2 t = D5 t := fun t x y => by rw [up_n (by omega), hq107.2.1 t (by omega), hq101.2.1 t (by omega), hq94.2.1 t (by omega), hq88.2.1 t (by omega), hq82.2.1 t (by omega), hq68.2.1 t (by omega)]; exact hJ.2.2.2.2 t x y
          refine lv_iconst (v := iI 0) hx hb dMo_root_119 rfl ?_
          refine lv_istore_n (lv' := [(2, .int (iI 0)), (1, .int (iI d)), (0, .ref mo)]) hx hb dMo_root_120 rfl hl (by decide) rfl (fun ls hl => ?_)
          have L121 : ∀ (n : Nat) (D8 : Int → Int) (Z8 : Int → Int) (n8 : Int) (H : Heap) (locs : List Loc) (ls : Array Slot), (0 ≤ n8 ∧ n8 ≤ 9) → (riJ D5 (N / PW 10 (2 * d)) s9 D8 Z8 (10 * s9 + n8)) → (10 - n8).toNat < n → va_P (dC, dI) vwCl (wMo dA mo ft lf hg kk tx pn tk fm tO tl mI mT mS mC mL mB mF mU mX mP mK D8 Z8 []) H → va_D A (wMo dA mo ft lf hg kk tx pn tk fm tO tl mI mT mS mC mL mB mF mU mX mP mK D8 Z8 []) → va_S A s.heap H locs → lv_has ls 3 [(2, .int (iI n8)), (1, .int (iI d)), (0, .ref mo)] → W p l e rmMo_root s m [.ref mo].toArray below meth c H locs 0 0 (MQ below (qMo_root dC dI dA mo ft lf hg kk tx pn tk fm tO tl mI mT mS mC mL mB mF mU mX mP mK mD mZ N A) [.ref mo].toArray s 0 0 A) (F0 m 121 ls []) := by
            intro n
            induction n with
            | zero => intro D8 Z8 n8 H locs ls hn8 hI hn; omega
            | succ n ih =>
              intro D8 Z8 n8 H locs ls hn8 hI hn hP hD hS hl
              have ih121 := ih
              refine lv_aload_n hx hb dMo_root_121 rfl (lv_at hl 2 rfl) ?_
              refine lv_iconst (v := iI 3) hx hb dMo_root_122 rfl ?_
              refine lv_iconst (v := iI 1) hx hb dMo_root_123 rfl ?_
              refine cv_i (va_runV (C := "MacroReckonerModel") (As := [.int (iI 3), .int (iI 1)]) (rest := []) ⟨hx, hb, hml, hown, hts⟩ (cMo_compare l dC dI dA mo ft lf hg kk tx pn tk fm tO tl mI mT mS mC mL mB mF mU mX mP mK D8 Z8 3 1 (N / PW 10 (2 * d) - (10 * s9 + n8) * (10 * s9 + n8)) (2 * (10 * s9 + n8) + 1) (by omega) (by exact hI.1) (by exact hI.2.1) H.size) (cwV 2 hts (gdV wt4_230 wt4_232 ws4_11 wt1_8 wt4_233) rfl rfl rfl ⟨rfl, by decide, by decide, by decide +kernel⟩ ⟨by decide, by decide⟩) (preV (q := ("MacroReckonerModel", TMo, 23)) hK hP hD hS hA XN_ok trivial [0, 1, 2, 3, 4, 5, 6, 7, 8, 9, 10, 11, 12, 13] rfl rfl 0 rfl rfl) rfl rfl hl.1 rfl (lv_room (Nat.le_of_ble_eq_true rfl)) dMo_root_124 ⟨Nat.zero_le _, Nat.zero_le _⟩) hP hD hS hA [0, 1, 2, 3, 4, 5, 6, 7, 8, 9, 10, 11, 12, 13] [] rfl (fun v_ => wMo dA mo ft lf hg kk tx pn tk fm tO tl mI mT mS mC mL mB mF mU mX mP mK D8 Z8 []) (fun _ => rfl) ([] : va_W) rfl (fun _ => rfl) [mo, mo + 1, mo + 2, mo + 3, mo + 4, mo + 5, mo + 6, mo + 7, mo + 8, mo + 9, mo + 10, mo + 11, mo + 12, mo + 13] rfl (fun _ => rfl) (fun _ => rfl) (fun r124 u_ H locs hq124 hP hD hS => ?_)
              have hP : va_P (dC, dI) vwCl (wMo dA mo ft lf hg kk tx pn tk fm tO tl mI mT mS mC mL mB mF mU mX mP mK D8 Z8 []) H := hP
              have hD : va_D A (wMo dA mo ft lf hg kk tx pn tk fm tO tl mI mT mS mC mL mB mF mU mX mP mK D8 Z8 []) := hD
              have hq124 : (((N / PW 10 (2 * d) - (10 * s9 + n8) * (10 * s9 + n8)) < (2 * (10 * s9 + n8) + 1) ∧ r124 < 0) ∨ ((N / PW 10 (2 * d) - (10 * s9 + n8) * (10 * s9 + n8)) = (2 * (10 * s9 + n8) + 1) ∧ r124 = 0) ∨ ((2 * (10 * s9 + n8) + 1) < (N / PW 10 (2 * d) - (10 * s9 + n8) * (10 * s9 + n8)) ∧ 0 < r124)) ∧ -400 ≤ r124 ∧ r124 ≤ 400 := hq124
              refine iv_if_lt (tgt := 148) hx hb dMo_root_127 (by decide) ⟨by omega, by omega⟩ (fun hc127 => ?_) (fun hc127 => ?_)
              · refine lv_aload_n hx hb dMo_root_148 rfl (lv_at hl 2 rfl) ?_
                refine lv_iconst (v := iI 2) hx hb dMo_root_149 rfl ?_
                refine lv_iconst (v := iI (-1)) hx hb dMo_root_150 rfl ?_
                refine lv_iload_n hx hb dMo_root_151 rfl (lv_at hl 0 rfl) ?_
                refine cv_v (va_runV (C := "MacroReckonerModel") (As := [.int (iI 2), .int (iI (-1)), .int (iI n8)]) (rest := []) ⟨hx, hb, hml, hown, hts⟩ (cMo_append l dC dI dA mo ft lf hg kk tx pn tk fm tO tl mI mT mS mC mL mB mF mU mX mP mK D8 Z8 2 (-1) n8 s9 (by omega) (by have hzz := ri_b hI (div_le hN0) hN9 (by omega); omega) (by exact hI.2.2.1) H.size) (cwV 3 hts (gdV wt4_187 wt4_189 ws4_1 wt1_8 wt4_190) rfl rfl rfl ⟨rfl, by decide, by decide, by decide +kernel⟩ ⟨by decide, by decide⟩) (preV (q := ("MacroReckonerModel", TMo, 23)) hK hP hD hS hA XN_ok trivial [0, 1, 2, 3, 4, 5, 6, 7, 8, 9, 10, 11, 12, 13] rfl rfl 0 rfl rfl) rfl rfl hl.1 rfl (lv_room (Nat.le_of_ble_eq_true rfl)) dMo_root_152 ⟨Nat.zero_le _, Nat.zero_le _⟩) hP hD hS hA [0, 1, 2, 3, 4, 5, 6, 7, 8, 9, 10, 11, 12, 13] [] rfl (fun v_ => wMo dA mo ft lf hg kk tx pn tk fm tO tl mI mT mS mC mL mB mF mU mX mP mK v_.1 v_.2 []) (fun _ => rfl) ([] : va_W) rfl (fun _ => rfl) [mo, mo + 1, mo + 2, mo + 3, mo + 4, mo + 5, mo + 6, mo + 7, mo + 8, mo + 9, mo + 10, mo + 11, mo + 12, mo + 13] rfl (fun _ => rfl) (fun _ => rfl) (fun u_ H locs hq152 hP hD hS => ?_)
                obtain ⟨D1_152, Z1_152⟩ := u_
                have hP : va_P (dC, dI) vwCl (wMo dA mo ft lf hg kk tx pn tk fm tO tl mI mT mS mC mL mB mF mU mX mP mK D1_152 Z1_152 []) H := hP
                have hD : va_D A (wMo dA mo ft lf hg kk tx pn tk fm tO tl mI mT mS mC mL mB mF mU mX mP mK D1_152 Z1_152 []) := hD
                have hq152 : (((-1) < 0 ∧ MR D1_152 Z1_152 2 (s9 * 10 + n8)) ∨ (0 ≤ (-1) ∧ MR D1_152 Z1_152 2 (s9 * PW 10 (-1)))) ∧ others D8 Z8 D1_152 Z1_152 2 := hq152
                have hL9 := (hq152.1.resolve_right (fun z => by omega)).2
                refine lv_iinc (k := 1) (lv' := [(1, .int (iI (d - 1))), (2, .int (iI n8)), (0, .ref mo)]) (v := iI (d - 1)) hx hb dMo_root_155 hl rfl (by rw [show (Int32.ofInt (-1)) = iI (-1) from rfl, ← iI_add]; congr 1) (by decide) rfl (fun ls hl => ?_)
                refine lv_goto (tgt := 51) hx hb dMo_root_158 (by decide) ?_
                exact ih51 D1_152 Z1_152 (d - 1) (10 * s9 + n8) H locs ls (by exact rq_s hJ hI (by omega) hn8.1 rfl (by omega) hL9 hq152.2) (by omega) hP hD hS (lv_sub hl [0, 2] rfl)
              · refine lv_aload_n hx hb dMo_root_130 rfl (lv_at hl 2 rfl) ?_
                refine lv_iconst (v := iI 3) hx hb dMo_root_131 rfl ?_
                refine lv_iconst (v := iI 1) hx hb dMo_root_132 rfl ?_
                refine cv_v (va_runV (C := "MacroReckonerModel") (As := [.int (iI 3), .int (iI 1)]) (rest := []) ⟨hx, hb, hml, hown, hts⟩ (cMo_decrease l dC dI dA mo ft lf hg kk tx pn tk fm tO tl mI mT mS mC mL mB mF mU mX mP mK D8 Z8 3 1 (N / PW 10 (2 * d) - (10 * s9 + n8) * (10 * s9 + n8)) (2 * (10 * s9 + n8) + 1) (by omega) (by exact hI.1) (by exact hI.2.1) (by omega) H.size) (cwV 2 hts (gdV wt5_17 wt5_19 ws5_1 wt1_8 wt5_20) rfl rfl rfl ⟨rfl, by decide, by decide, by decide +kernel⟩ ⟨by decide, by decide⟩) (preV (q := ("MacroReckonerModel", TMo, 23)) hK hP hD hS hA XN_ok trivial [0, 1, 2, 3, 4, 5, 6, 7, 8, 9, 10, 11, 12, 13] rfl rfl 0 rfl rfl) rfl rfl hl.1 rfl (lv_room (Nat.le_of_ble_eq_true rfl)) dMo_root_133 ⟨Nat.zero_le _, Nat.zero_le _⟩) hP hD hS hA [0, 1, 2, 3, 4, 5, 6, 7, 8, 9, 10, 11, 12, 13] [] rfl (fun v_ => wMo dA mo ft lf hg kk tx pn tk fm tO tl mI mT mS mC mL mB mF mU mX mP mK v_.1 v_.2 []) (fun _ => rfl) ([] : va_W) rfl (fun _ => rfl) [mo, mo + 1, mo + 2, mo + 3, mo + 4, mo + 5, mo + 6, mo + 7, mo + 8, mo + 9, mo + 10, mo + 11, mo + 12, mo + 13] rfl (fun _ => rfl) (fun _ => rfl) (fun u_ H locs hq133 hP hD hS => ?_)
                obtain ⟨D1_133, Z1_133⟩ := u_
                have hP : va_P (dC, dI) vwCl (wMo dA mo ft lf hg kk tx pn tk fm tO tl mI mT mS mC mL mB mF mU mX mP mK D1_133 Z1_133 []) H := hP
                have hD : va_D A (wMo dA mo ft lf hg kk tx pn tk fm tO tl mI mT mS mC mL mB mF mU mX mP mK D1_133 Z1_133 []) := hD
                have hq133 : MR D1_133 Z1_133 3 ((N / PW 10 (2 * d) - (10 * s9 + n8) * (10 * s9 + n8)) - (2 * (10 * s9 + n8) + 1)) ∧ others D8 Z8 D1_133 Z1_133 3 := hq133
                have hzz := ri_b hI (div_le hN0) hN9 (by omega)
                have hz1 := hq133.2.2 1 (by decide)
                have hz4 := hq133.2.2 4 (by decide)
                refine lv_aload_n hx hb dMo_root_136 rfl (lv_at hl 2 rfl) ?_
                refine lv_iconst (v := iI 1) hx hb dMo_root_137 rfl ?_
                refine lv_iconst (v := iI 4) hx hb dMo_root_138 rfl ?_
                refine cv_v (va_runV (C := "MacroReckonerModel") (As := [.int (iI 1), .int (iI 4)]) (rest := []) ⟨hx, hb, hml, hown, hts⟩ (cMo_increase l dC dI dA mo ft lf hg kk tx pn tk fm tO tl mI mT mS mC mL mB mF mU mX mP mK D1_133 Z1_133 1 4 (2 * (10 * s9 + n8) + 1) 2 (by omega) (by exact MR_o hq133.2 (by decide) hI.2.1) (by exact MR_o hq133.2 (by decide) hI.2.2.2.1) (by omega) H.size) (cwV 2 hts (gdV wt5_13 wt5_15 ws5_0 wt1_8 wt5_16) rfl rfl rfl ⟨rfl, by decide, by decide, by decide +kernel⟩ ⟨by decide, by decide⟩) (preV (q := ("MacroReckonerModel", TMo, 23)) hK hP hD hS hA XN_ok trivial [0, 1, 2, 3, 4, 5, 6, 7, 8, 9, 10, 11, 12, 13] rfl rfl 0 rfl rfl) rfl rfl hl.1 rfl (lv_room (Nat.le_of_ble_eq_true rfl)) dMo_root_139 ⟨Nat.zero_le _, Nat.zero_le _⟩) hP hD hS hA [0, 1, 2, 3, 4, 5, 6, 7, 8, 9, 10, 11, 12, 13] [] rfl (fun v_ => wMo dA mo ft lf hg kk tx pn tk fm tO tl mI mT mS mC mL mB mF mU mX mP mK v_.1 v_.2 []) (fun _ => rfl) ([] : va_W) rfl (fun _ => rfl) [mo, mo + 1, mo + 2, mo + 3, mo + 4, mo + 5, mo + 6, mo + 7, mo + 8, mo + 9, mo + 10, mo + 11, mo + 12, mo + 13] rfl (fun _ => rfl) (fun _ => rfl) (fun u_ H locs hq139 hP hD hS => ?_)
                obtain ⟨D1_139, Z1_139⟩ := u_
                have hP : va_P (dC, dI) vwCl (wMo dA mo ft lf hg kk tx pn tk fm tO tl mI mT mS mC mL mB mF mU mX mP mK D1_139 Z1_139 []) H := hP
                have hD : va_D A (wMo dA mo ft lf hg kk tx pn tk fm tO tl mI mT mS mC mL mB mF mU mX mP mK D1_139 Z1_139 []) := hD
                have hq139 : MR D1_139 Z1_139 1 ((2 * (10 * s9 + n8) + 1) + 2) ∧ others D1_133 Z1_133 D1_139 Z1_139 1 := hq139
                refine lv_iinc (k := 0) (lv' := [(2, .int (iI (n8 + 1))), (1, .int (iI d)), (0, .ref mo)]) (v := iI (n8 + 1)) hx hb dMo_root_142 hl rfl (iI_add _ _).symm (by decide) rfl (fun ls hl => ?_)
                refine lv_goto (tgt := 121) hx hb dMo_root_145 (by decide) ?_
                exact ih121 D1_139 Z1_139 (n8 + 1) H locs ls (by have hS9 := ri_s hI hq133.1 hq133.2 hq139.1 hq139.2; exact ⟨by omega, rq_n hJ.2.2.1 hb5 hb3 hb4 (show 10 * s9 + n8 + 1 = 10 * s9 + (n8 + 1) by omega) (M_nn hS9.1)⟩) (by rw [show 10 * s9 + (n8 + 1) = 10 * s9 + n8 + 1 by omega]; exact ri_s hI hq133.1 hq133.2 hq139.1 hq139.2) (by omega) hP hD hS (lv_sub hl [0, 1, 2] rfl)
          exact L121 _ (up D1_107 1360 2) Z1_107 0 H locs ls (by omega) (by rw [Int.add_zero]; exact ri_0 hb5 h3I h1I h2I h4I hDI) (Nat.lt_succ_self _) hP hD hS (lv_sub hl [0, 1, 2] rfl)
    exact L51 _ D5 (up (up mZ 2 0) 3 0) ((((((up (up mZ 2 0) 3 0)) 0) + 1) / 2) - 1) 0 H locs ls (by rw [hu0]; exact rq_0 (by omega) hN0 (by have a := (MD_bd hM.1).2; have b := PW_mono (b := 10) (i := mZ 0) (j := 2 * ((mZ 0 + 1) / 2)) (by decide) hz.1 (by omega); omega) (by rw [up_n (by decide), up_s]) up_s) (Nat.lt_succ_self _) hP hD hS (lv_sub hl [0, 1] rfl)
  refine iv_icmp_ne (tgt := 38) hx hb dMo_root_23 (by decide) ⟨by omega, by omega⟩ ⟨by decide, by decide⟩ (fun hc23 => ?_) (fun hc23 => ?_)
  · exact J38 mD H locs ls (by exact rd_0 hM (by omega)) hP hD hS (lv_sub hl [0] rfl)
  · refine lv_aload_n hx hb dMo_root_26 rfl (lv_at hl 0 rfl) ?_
    refine va_get (D := (dC, dI)) (ci := 7) (v := .ref (mo + 12)) (C := "MacroReckonerModel") (T := TMo) (N := 23) hx hb hts inMo hown hK hP 0 rfl rfl 21 (by decide) (hts _ wt4_79) (fun _ h9 => h9) rfl dMo_root_27 ?_
    refine lv_aload_n hx hb dMo_root_30 rfl (lv_at hl 0 rfl) ?_
    refine va_get (D := (dC, dI)) (ci := 7) (v := .ref (mo + 13)) (C := "MacroReckonerModel") (T := TMo) (N := 23) hx hb hts inMo hown hK hP 0 rfl rfl 22 (by decide) (hts _ wt4_80) (fun _ h9 => h9) rfl dMo_root_31 ?_
    refine lv_iconst (v := iI 0) hx hb dMo_root_34 rfl ?_
    refine iv_iald hx hb hK hP 13 0 rfl rfl (by decide) dMo_root_35 (by omega) (by omega) ?_
    refine lv_iconst (v := iI 0) hx hb dMo_root_36 rfl ?_
    refine iv_iast (v := 0) hx hb hK hP hD hS 12 0 rfl rfl (by decide) dMo_root_37 (by omega) (by omega) (fun H locs hP hD hS => ?_)
    have hP : va_P (dC, dI) vwCl (wMo dA mo ft lf hg kk tx pn tk fm tO tl mI mT mS mC mL mB mF mU mX mP mK (up mD (((up (up mZ 2 0) 3 0)) 0) 0) (up (up mZ 2 0) 3 0) []) H := hP
    have hD : va_D A (wMo dA mo ft lf hg kk tx pn tk fm tO tl mI mT mS mC mL mB mF mU mX mP mK (up mD (((up (up mZ 2 0) 3 0)) 0) 0) (up (up mZ 2 0) 3 0) []) := hD
    exact J38 (up mD (((up (up mZ 2 0) 3 0)) 0) 0) H locs ls (by rw [hu0]; exact rd_1 hM) hP hD hS (lv_sub hl [0] rfl)
