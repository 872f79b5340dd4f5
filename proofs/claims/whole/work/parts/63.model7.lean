theorem dMo_divide_0 : decode prog_9_method_13_code 0 = .ok (.aload_n 0, 1) := by decide +kernel
theorem dMo_divide_1 : decode prog_9_method_13_code 1 = .ok (.getfield 47, 3) := by decide +kernel
theorem dMo_divide_4 : decode prog_9_method_13_code 4 = .ok (.iconst 3, 1) := by decide +kernel
theorem dMo_divide_5 : decode prog_9_method_13_code 5 = .ok (.iconst 0, 1) := by decide +kernel
theorem dMo_divide_6 : decode prog_9_method_13_code 6 = .ok (.iastore, 1) := by decide +kernel
theorem dMo_divide_7 : decode prog_9_method_13_code 7 = .ok (.aload_n 0, 1) := by decide +kernel
theorem dMo_divide_8 : decode prog_9_method_13_code 8 = .ok (.getfield 47, 3) := by decide +kernel
theorem dMo_divide_11 : decode prog_9_method_13_code 11 = .ok (.iconst 0, 1) := by decide +kernel
theorem dMo_divide_12 : decode prog_9_method_13_code 12 = .ok (.iaload, 1) := by decide +kernel
theorem dMo_divide_13 : decode prog_9_method_13_code 13 = .ok (.iconst 1, 1) := by decide +kernel
theorem dMo_divide_14 : decode prog_9_method_13_code 14 = .ok (.isub, 1) := by decide +kernel
theorem dMo_divide_15 : decode prog_9_method_13_code 15 = .ok (.istore_n 1, 1) := by decide +kernel
theorem dMo_divide_16 : decode prog_9_method_13_code 16 = .ok (.iload_n 1, 1) := by decide +kernel
theorem dMo_divide_17 : decode prog_9_method_13_code 17 = .ok (.ifCond .lt 55, 3) := by decide +kernel
theorem dMo_divide_20 : decode prog_9_method_13_code 20 = .ok (.aload_n 0, 1) := by decide +kernel
theorem dMo_divide_21 : decode prog_9_method_13_code 21 = .ok (.iconst 3, 1) := by decide +kernel
theorem dMo_divide_22 : decode prog_9_method_13_code 22 = .ok (.iconst (-1), 1) := by decide +kernel
theorem dMo_divide_23 : decode prog_9_method_13_code 23 = .ok (.aload_n 0, 1) := by decide +kernel
theorem dMo_divide_24 : decode prog_9_method_13_code 24 = .ok (.getfield 44, 3) := by decide +kernel
theorem dMo_divide_27 : decode prog_9_method_13_code 27 = .ok (.iload_n 1, 1) := by decide +kernel
theorem dMo_divide_28 : decode prog_9_method_13_code 28 = .ok (.iaload, 1) := by decide +kernel
theorem dMo_divide_29 : decode prog_9_method_13_code 29 = .ok (.invokevirtual 58, 3) := by decide +kernel
theorem dMo_divide_32 : decode prog_9_method_13_code 32 = .ok (.iconst 0, 1) := by decide +kernel
theorem dMo_divide_33 : decode prog_9_method_13_code 33 = .ok (.istore_n 2, 1) := by decide +kernel
theorem dMo_divide_34 : decode prog_9_method_13_code 34 = .ok (.aload_n 0, 1) := by decide +kernel
theorem dMo_divide_35 : decode prog_9_method_13_code 35 = .ok (.iconst 3, 1) := by decide +kernel
theorem dMo_divide_36 : decode prog_9_method_13_code 36 = .ok (.iconst 1, 1) := by decide +kernel
theorem dMo_divide_37 : decode prog_9_method_13_code 37 = .ok (.invokevirtual 62, 3) := by decide +kernel
theorem dMo_divide_40 : decode prog_9_method_13_code 40 = .ok (.ifCond .lt 15, 3) := by decide +kernel
theorem dMo_divide_43 : decode prog_9_method_13_code 43 = .ok (.aload_n 0, 1) := by decide +kernel
theorem dMo_divide_44 : decode prog_9_method_13_code 44 = .ok (.iconst 3, 1) := by decide +kernel
theorem dMo_divide_45 : decode prog_9_method_13_code 45 = .ok (.iconst 1, 1) := by decide +kernel
theorem dMo_divide_46 : decode prog_9_method_13_code 46 = .ok (.invokevirtual 66, 3) := by decide +kernel
theorem dMo_divide_49 : decode prog_9_method_13_code 49 = .ok (.iinc 2 1, 3) := by decide +kernel
theorem dMo_divide_52 : decode prog_9_method_13_code 52 = .ok (.goto (-18), 3) := by decide +kernel
theorem dMo_divide_55 : decode prog_9_method_13_code 55 = .ok (.aload_n 0, 1) := by decide +kernel
theorem dMo_divide_56 : decode prog_9_method_13_code 56 = .ok (.getfield 44, 3) := by decide +kernel
theorem dMo_divide_59 : decode prog_9_method_13_code 59 = .ok (.sipush 680, 3) := by decide +kernel
theorem dMo_divide_62 : decode prog_9_method_13_code 62 = .ok (.iload_n 1, 1) := by decide +kernel
theorem dMo_divide_63 : decode prog_9_method_13_code 63 = .ok (.iadd, 1) := by decide +kernel
theorem dMo_divide_64 : decode prog_9_method_13_code 64 = .ok (.iload_n 2, 1) := by decide +kernel
theorem dMo_divide_65 : decode prog_9_method_13_code 65 = .ok (.iastore, 1) := by decide +kernel
theorem dMo_divide_66 : decode prog_9_method_13_code 66 = .ok (.iinc 1 (-1), 3) := by decide +kernel
theorem dMo_divide_69 : decode prog_9_method_13_code 69 = .ok (.goto (-53), 3) := by decide +kernel
theorem dMo_divide_72 : decode prog_9_method_13_code 72 = .ok (.aload_n 0, 1) := by decide +kernel
theorem dMo_divide_73 : decode prog_9_method_13_code 73 = .ok (.getfield 47, 3) := by decide +kernel
theorem dMo_divide_76 : decode prog_9_method_13_code 76 = .ok (.iconst 2, 1) := by decide +kernel
theorem dMo_divide_77 : decode prog_9_method_13_code 77 = .ok (.aload_n 0, 1) := by decide +kernel
theorem dMo_divide_78 : decode prog_9_method_13_code 78 = .ok (.getfield 47, 3) := by decide +kernel
theorem dMo_divide_81 : decode prog_9_method_13_code 81 = .ok (.iconst 0, 1) := by decide +kernel
theorem dMo_divide_82 : decode prog_9_method_13_code 82 = .ok (.iaload, 1) := by decide +kernel
theorem dMo_divide_83 : decode prog_9_method_13_code 83 = .ok (.iastore, 1) := by decide +kernel
theorem dMo_divide_84 : decode prog_9_method_13_code 84 = .ok (.aload_n 0, 1) := by decide +kernel
theorem dMo_divide_85 : decode prog_9_method_13_code 85 = .ok (.iconst 2, 1) := by decide +kernel
theorem dMo_divide_86 : decode prog_9_method_13_code 86 = .ok (.invokevirtual 54, 3) := by decide +kernel
theorem dMo_divide_89 : decode prog_9_method_13_code 89 = .ok (.return_, 1) := by decide +kernel
abbrev qMo_divide (dC : Nat → ClassId) (dI : Nat → Nat → Nat) (dA : Nat → ClassId) (mo : Nat) (ft : Int) (lf : Int) (hg : Int) (kk : Int) (tx : Int) (pn : Int) (tk : Int) (fm : Int) (tO : Int) (tl : Int) (mI : Int → Int) (mT : Int → Int) (mS : Int → Int) (mC : Int → Int) (mL : Int → Int) (mB : Int → Int) (mF : Int → Int) (mU : Int → Int) (mX : Int → Int) (mP : Int → Int) (mK : Int → Int) (mD : Int → Int) (mZ : Int → Int) (N : Int) (M : Int) (A : Nat → Prop) : Array Value → State → Outcome → State → Prop := QV (dC, dI) vwCl (tyA dA) (fun (v_ : (Int → Int) × (Int → Int)) => MR v_.1 v_.2 2 (N / M) ∧ MR v_.1 v_.2 3 (N % M) ∧ (∀ p, p < 680 ∨ 1360 ≤ p → v_.1 p = mD p) ∧ ∀ t, t ≠ 2 → t ≠ 3 → v_.2 t = mZ t) (fun (v_ : (Int → Int) × (Int → Int)) => wMo dA mo ft lf hg kk tx pn tk fm tO tl mI mT mS mC mL mB mF mU mX mP mK v_.1 v_.2 []) A
abbrev rmMo_divide : Room := { frames := 2, cells := 0, slots := 0, locals := 46 }
set_option maxRecDepth 100000 in
set_option maxHeartbeats 1000000 in
theorem cMo_divide (l : Launch) (dC : Nat → ClassId) (dI : Nat → Nat → Nat) (dA : Nat → ClassId) (mo : Nat) (ft : Int) (lf : Int) (hg : Int) (kk : Int) (tx : Int) (pn : Int) (tk : Int) (fm : Int) (tO : Int) (tl : Int) (mI : Int → Int) (mT : Int → Int) (mS : Int → Int) (mC : Int → Int) (mL : Int → Int) (mB : Int → Int) (mF : Int → Int) (mU : Int → Int) (mX : Int → Int) (mP : Int → Int) (mK : Int → Int) (mD : Int → Int) (mZ : Int → Int) (N : Int) (M : Int) (hM : MR mD mZ 0 N) (hM2 : MR mD mZ 1 M) (hpos : 0 < M) (hle : mZ 1 + 1 ≤ 340) (sz : Nat) : Met l yMo_divide wsMo_divide rmMo_divide (PC (dC, dI) vwCl (tyA dA) XN [.ref mo] (wMo dA mo ft lf hg kk tx pn tk fm tO tl mI mT mS mC mL mB mF mU mX mP mK mD mZ []) sz) (qMo_divide dC dI dA mo ft lf hg kk tx pn tk fm tO tl mI mT mS mC mL mB mF mU mX mP mK mD mZ N M (va_A (wMo dA mo ft lf hg kk tx pn tk fm tO tl mI mT mS mC mL mB mF mU mX mP mK mD mZ []) sz)) 0 0 (va_A (wMo dA mo ft lf hg kk tx pn tk fm tO tl mI mT mS mC mL mB mF mU mX mP mK mD mZ []) sz) := by
  refine met_of (cc := prog_9_method_13_code) (maxL := 3) (ret := none) (Qc := qMo_divide dC dI dA mo ft lf hg kk tx pn tk fm tO tl mI mT mS mC mL mB mF mU mX mP mK mD mZ N M) XN_ok (by decide) rfl (Nat.le_of_ble_eq_true rfl) ?_
  intro p e s m below meth c ls A hx hb hr hml hown hts hlocks hnm hK hP hD hA hX hS hl
  have hl : lv_has ls 3 [(0, .ref mo)] := hl
  have hown : s.vm.findClass "MacroReckonerModel" = some m.cls := hown
  obtain ⟨H, hH⟩ : ∃ H : Heap, H = s.heap := ⟨_, rfl⟩
  obtain ⟨locs, hlo⟩ : ∃ L : List Loc, L = [] := ⟨_, rfl⟩
  have hP : va_P (dC, dI) vwCl (wMo dA mo ft lf hg kk tx pn tk fm tO tl mI mT mS mC mL mB mF mU mX mP mK mD mZ []) H := hH ▸ hP
  have hS : va_S A s.heap H locs := by rw [hH, hlo]; exact hS
  suffices hgo : W p l e rmMo_divide s m [.ref mo].toArray below meth c H locs 0 0 (MQ below (qMo_divide dC dI dA mo ft lf hg kk tx pn tk fm tO tl mI mT mS mC mL mB mF mU mX mP mK mD mZ N M A) [.ref mo].toArray s 0 0 A) (F0 m 0 ls []) by rw [hH, hlo] at hgo; exact hgo
  clear hH hlo
  have hz := hM.1.1
  have hz2 := hM2.1.1
  refine lv_aload_n hx hb dMo_divide_0 rfl (lv_at hl 0 rfl) ?_
  refine va_get (D := (dC, dI)) (ci := 7) (v := .ref (mo + 13)) (C := "MacroReckonerModel") (T := TMo) (N := 23) hx hb hts inMo hown hK hP 0 rfl rfl 22 (by decide) (hts _ wt4_80) (fun _ h9 => h9) rfl dMo_divide_1 ?_
  refine lv_iconst (v := iI 3) hx hb dMo_divide_4 rfl ?_
  refine lv_iconst (v := iI 0) hx hb dMo_divide_5 rfl ?_
  refine iv_iast (v := 0) hx hb hK hP hD hS 13 0 rfl rfl (by decide) dMo_divide_6 (by omega) (by omega) (fun H locs hP hD hS => ?_)
  have hP : va_P (dC, dI) vwCl (wMo dA mo ft lf hg kk tx pn tk fm tO tl mI mT mS mC mL mB mF mU mX mP mK mD (up mZ 3 0) []) H := hP
  have hD : va_D A (wMo dA mo ft lf hg kk tx pn tk fm tO tl mI mT mS mC mL mB mF mU mX mP mK mD (up mZ 3 0) []) := hD
  refine lv_aload_n hx hb dMo_divide_7 rfl (lv_at hl 0 rfl) ?_
  refine va_get (D := (dC, dI)) (ci := 7) (v := .ref (mo + 13)) (C := "MacroReckonerModel") (T := TMo) (N := 23) hx hb hts inMo hown hK hP 0 rfl rfl 22 (by decide) (hts _ wt4_80) (fun _ h9 => h9) rfl dMo_divide_8 ?_
  refine lv_iconst (v := iI 0) hx hb dMo_divide_11 rfl ?_
  refine iv_iald hx hb hK hP 13 0 rfl rfl (by decide) dMo_divide_12 (by omega) (by omega) ?_
  refine lv_iconst (v := iI 1) hx hb dMo_divide_13 rfl ?_
  refine iv_isub hx hb dMo_divide_14 ?_
  refine lv_istore_n (lv' := [(1, .int (iI ((((up mZ 3 0)) 0) - 1))), (0, .ref mo)]) hx hb dMo_divide_15 rfl hl (by decide) rfl (fun ls hl => ?_)
  have L16 : ∀ (n : Nat) (D9 : Int → Int) (Z9 : Int → Int) (d : Int) (H : Heap) (locs : List Loc) (ls : Array Slot), (mqJ mD mZ N M D9 Z9 d) → (d + 1).toNat < n → va_P (dC, dI) vwCl (wMo dA mo ft lf hg kk tx pn tk fm tO tl mI mT mS mC mL mB mF mU mX mP mK D9 Z9 []) H → va_D A (wMo dA mo ft lf hg kk tx pn tk fm tO tl mI mT mS mC mL mB mF mU mX mP mK D9 Z9 []) → va_S A s.heap H locs → lv_has ls 3 [(1, .int (iI d)), (0, .ref mo)] → W p l e rmMo_divide s m [.ref mo].toArray below meth c H locs 0 0 (MQ below (qMo_divide dC dI dA mo ft lf hg kk tx pn tk fm tO tl mI mT mS mC mL mB mF mU mX mP mK mD mZ N M A) [.ref mo].toArray s 0 0 A) (F0 m 16 ls []) := by
    intro n
    induction n with
    | zero => intro D9 Z9 d H locs ls hJ hn; omega
    | succ n ih =>
      intro D9 Z9 d H locs ls hJ hn hP hD hS hl
      have hd := hJ.1
      have ih16 := ih
      refine lv_iload_n hx hb dMo_divide_16 rfl (lv_at hl 0 rfl) ?_
      refine iv_if_lt (tgt := 72) hx hb dMo_divide_17 (by decide) ⟨by omega, by omega⟩ (fun hc17 => ?_) (fun hc17 => ?_)
      · refine lv_aload_n hx hb dMo_divide_72 rfl (lv_at hl 1 rfl) ?_
        refine va_get (D := (dC, dI)) (ci := 7) (v := .ref (mo + 13)) (C := "MacroReckonerModel") (T := TMo) (N := 23) hx hb hts inMo hown hK hP 0 rfl rfl 22 (by decide) (hts _ wt4_80) (fun _ h9 => h9) rfl dMo_divide_73 ?_
        refine lv_iconst (v := iI 2) hx hb dMo_divide_76 rfl ?_
        refine lv_aload_n hx hb dMo_divide_77 rfl (lv_at hl 1 rfl) ?_
        refine va_get (D := (dC, dI)) (ci := 7) (v := .ref (mo + 13)) (C := "MacroReckonerModel") (T := TMo) (N := 23) hx hb hts inMo hown hK hP 0 rfl rfl 22 (by decide) (hts _ wt4_80) (fun _ h9 => h9) rfl dMo_divide_78 ?_
        refine lv_iconst (v := iI 0) hx hb dMo_divide_81 rfl ?_
        refine iv_iald hx hb hK hP 13 0 rfl rfl (by decide) dMo_divide_82 (by omega) (by omega) ?_
        refine iv_iast (v := Z9 0) hx hb hK hP hD hS 13 0 rfl rfl (by decide) dMo_divide_83 (by omega) (by omega) (fun H locs hP hD hS => ?_)
        have hP : va_P (dC, dI) vwCl (wMo dA mo ft lf hg kk tx pn tk fm tO tl mI mT mS mC mL mB mF mU mX mP mK D9 (up Z9 2 (Z9 0)) []) H := hP
        have hD : va_D A (wMo dA mo ft lf hg kk tx pn tk fm tO tl mI mT mS mC mL mB mF mU mX mP mK D9 (up Z9 2 (Z9 0)) []) := hD
        refine lv_aload_n hx hb dMo_divide_84 rfl (lv_at hl 1 rfl) ?_
        refine lv_iconst (v := iI 2) hx hb dMo_divide_85 rfl ?_
        refine cv_v (va_runV (C := "MacroReckonerModel") (As := [.int (iI 2)]) (rest := []) ⟨hx, hb, hml, hown, hts⟩ (cMo_trim l dC dI dA mo ft lf hg kk tx pn tk fm tO tl mI mT mS mC mL mB mF mU mX mP mK D9 ((up Z9 2 (Z9 0))) 2 (N / M) (by omega) (by exact (mq_e hM hJ (by omega)).1) H.size) (cwV 1 hts (gdV wt4_191 wt4_193 ws4_2 wt1_8 wt4_194) rfl rfl rfl ⟨rfl, by decide, by decide, by decide +kernel⟩ ⟨by decide, by decide⟩) (preV (q := ("MacroReckonerModel", TMo, 23)) hK hP hD hS hA XN_ok trivial [0, 1, 2, 3, 4, 5, 6, 7, 8, 9, 10, 11, 12, 13] rfl rfl 0 rfl rfl) rfl rfl hl.1 rfl (lv_room (Nat.le_of_ble_eq_true rfl)) dMo_divide_86 ⟨Nat.zero_le _, Nat.zero_le _⟩) hP hD hS hA [0, 1, 2, 3, 4, 5, 6, 7, 8, 9, 10, 11, 12, 13] [] rfl (fun v_ => wMo dA mo ft lf hg kk tx pn tk fm tO tl mI mT mS mC mL mB mF mU mX mP mK D9 v_ []) (fun _ => rfl) ([] : va_W) rfl (fun _ => rfl) [mo, mo + 1, mo + 2, mo + 3, mo + 4, mo + 5, mo + 6, mo + 7, mo + 8, mo + 9, mo + 10, mo + 11, mo + 12, mo + 13] rfl (fun _ => rfl) (fun _ => rfl) (fun u_ H locs hq86 hP hD hS => ?_)
        obtain ⟨Z7, rfl⟩ : ∃ z, z = u_ := ⟨_, rfl⟩
        have hP : va_P (dC, dI) vwCl (wMo dA mo ft lf hg kk tx pn tk fm tO tl mI mT mS mC mL mB mF mU mX mP mK D9 Z7 []) H := hP
        have hD : va_D A (wMo dA mo ft lf hg kk tx pn tk fm tO tl mI mT mS mC mL mB mF mU mX mP mK D9 Z7 []) := hD
        have hq86 : MR D9 Z7 2 (N / M) ∧ ∀ j, j ≠ 2 → Z7 j = ((up Z9 2 (Z9 0))) j := hq86
        exact rt_v hx hb hr hlocks hK hS dMo_divide_89 (D9, Z7) hP hD (show MR D9 Z7 2 (N / M) ∧ MR D9 Z7 3 (N % M) ∧ (∀ p, p < 680 ∨ 1360 ≤ p → D9 p = mD p) ∧ ∀ t, t ≠ 2 → t ≠ 3 → Z7 t = mZ t from by exact ⟨hq86.1, MR_f (mq_e hM hJ (by omega)).2 (fun _ _ _ => rfl) (hq86.2 3 (by decide)), hJ.2.2.2.2.1, fun t x y => by rw [hq86.2 t x, up_n x]; exact hJ.2.2.2.2.2 t y⟩)
      · obtain ⟨hX1, hX2, hX3, hX4⟩ := mq_X hM hpos hJ (by omega)
        have hz3 : Z9 3 ≤ mZ 1 := M_sz hJ.2.1 (by have h1 := Int.emod_lt_of_pos (N / PW 10 (d + 1)) hpos; have h2 := (MD_bd hM2.1).2; omega) hz2.1
        refine lv_aload_n hx hb dMo_divide_20 rfl (lv_at hl 1 rfl) ?_
        refine lv_iconst (v := iI 3) hx hb dMo_divide_21 rfl ?_
        refine lv_iconst (v := iI (-1)) hx hb dMo_divide_22 rfl ?_
        refine lv_aload_n hx hb dMo_divide_23 rfl (lv_at hl 1 rfl) ?_
        refine va_get (D := (dC, dI)) (ci := 7) (v := .ref (mo + 12)) (C := "MacroReckonerModel") (T := TMo) (N := 23) hx hb hts inMo hown hK hP 0 rfl rfl 21 (by decide) (hts _ wt4_79) (fun _ h9 => h9) rfl dMo_divide_24 ?_
        refine lv_iload_n hx hb dMo_divide_27 rfl (lv_at hl 0 rfl) ?_
        refine iv_iald hx hb hK hP 12 0 rfl rfl (by decide) dMo_divide_28 (by omega) (by omega) ?_
        refine cv_v (va_runV (C := "MacroReckonerModel") (As := [.int (iI 3), .int (iI (-1)), .int (iI (D9 d))]) (rest := []) ⟨hx, hb, hml, hown, hts⟩ (cMo_append l dC dI dA mo ft lf hg kk tx pn tk fm tO tl mI mT mS mC mL mB mF mU mX mP mK D9 Z9 3 (-1) (D9 d) (N / PW 10 (d + 1) % M) (by omega) (by omega) (by exact hJ.2.1) H.size) (cwV 3 hts (gdV wt4_187 wt4_189 ws4_1 wt1_8 wt4_190) rfl rfl rfl ⟨rfl, by decide, by decide, by decide +kernel⟩ ⟨by decide, by decide⟩) (preV (q := ("MacroReckonerModel", TMo, 23)) hK hP hD hS hA XN_ok trivial [0, 1, 2, 3, 4, 5, 6, 7, 8, 9, 10, 11, 12, 13] rfl rfl 0 rfl rfl) rfl rfl hl.1 rfl (lv_room (Nat.le_of_ble_eq_true rfl)) dMo_divide_29 ⟨Nat.zero_le _, Nat.zero_le _⟩) hP hD hS hA [0, 1, 2, 3, 4, 5, 6, 7, 8, 9, 10, 11, 12, 13] [] rfl (fun v_ => wMo dA mo ft lf hg kk tx pn tk fm tO tl mI mT mS mC mL mB mF mU mX mP mK v_.1 v_.2 []) (fun _ => rfl) ([] : va_W) rfl (fun _ => rfl) [mo, mo + 1, mo + 2, mo + 3, mo + 4, mo + 5, mo + 6, mo + 7, mo + 8, mo + 9, mo + 10, mo + 11, mo + 12, mo + 13] rfl (fun _ => rfl) (fun _ => rfl) (fun u_ H locs hq29 hP hD hS => ?_)
        obtain ⟨D1_29, Z1_29⟩ := u_
        have hP : va_P (dC, dI) vwCl (wMo dA mo ft lf hg kk tx pn tk fm tO tl mI mT mS mC mL mB mF mU mX mP mK D1_29 Z1_29 []) H := hP
        have hD : va_D A (wMo dA mo ft lf hg kk tx pn tk fm tO tl mI mT mS mC mL mB mF mU mX mP mK D1_29 Z1_29 []) := hD
        have hq29 : (((-1) < 0 ∧ MR D1_29 Z1_29 3 ((N / PW 10 (d + 1) % M) * 10 + (D9 d))) ∨ (0 ≤ (-1) ∧ MR D1_29 Z1_29 3 ((N / PW 10 (d + 1) % M) * PW 10 (-1)))) ∧ others D9 Z9 D1_29 Z1_29 3 := hq29
        have hA9 := hq29.1.resolve_right (fun z => by omega)
        refine lv_iconst (v := iI 0) hx hb dMo_divide_32 rfl ?_
        refine lv_istore_n (lv' := [(2, .int (iI 0)), (1, .int (iI d)), (0, .ref mo)]) hx hb dMo_divide_33 rfl hl (by decide) rfl (fun ls hl => ?_)
        have L34 : ∀ (n : Nat) (D8 : Int → Int) (Z8 : Int → Int) (n8 : Int) (H : Heap) (locs : List Loc) (ls : Array Slot), (0 ≤ n8 ∧ n8 ≤ 9) → (MR D8 Z8 3 ((N / PW 10 (d + 1) % M * 10 + mD d) - n8 * M)) → (∀ p, p < 1020 ∨ 1360 ≤ p → D8 p = D9 p) → (∀ t, t ≠ 3 → Z8 t = Z9 t) → (10 - n8).toNat < n → va_P (dC, dI) vwCl (wMo dA mo ft lf hg kk tx pn tk fm tO tl mI mT mS mC mL mB mF mU mX mP mK D8 Z8 []) H → va_D A (wMo dA mo ft lf hg kk tx pn tk fm tO tl mI mT mS mC mL mB mF mU mX mP mK D8 Z8 []) → va_S A s.heap H locs → lv_has ls 3 [(2, .int (iI n8)), (1, .int (iI d)), (0, .ref mo)] → W p l e rmMo_divide s m [.ref mo].toArray below meth c H locs 0 0 (MQ below (qMo_divide dC dI dA mo ft lf hg kk tx pn tk fm tO tl mI mT mS mC mL mB mF mU mX mP mK mD mZ N M A) [.ref mo].toArray s 0 0 A) (F0 m 34 ls []) := by
          intro n
          induction n with
          | zero => intro D8 Z8 n8 H locs ls hn8 hK1 hKD hKZ hn; omega
          | succ n ih =>
            intro D8 Z8 n8 H locs ls hn8 hK1 hKD hKZ hn hP hD hS hl
            have ih34 := ih
            refine lv_aload_n hx hb dMo_divide_34 rfl (lv_at hl 2 rfl) ?_
            refine lv_iconst (v := iI 3) hx hb dMo_divide_35 rfl ?_
            refine lv_iconst (v := iI 1) hx hb dMo_divide_36 rfl ?_
            refine cv_i (va_runV (C := "MacroReckonerModel") (As := [.int (iI 3), .int (iI 1)]) (rest := []) ⟨hx, hb, hml, hown, hts⟩ (cMo_compare l dC dI dA mo ft lf hg kk tx pn tk fm tO tl mI mT mS mC mL mB mF mU mX mP mK D8 Z8 3 1 ((N / PW 10 (d + 1) % M * 10 + mD d) - n8 * M) M (by omega) (by exact hK1) (by exact MR_f hM2 (fun t x y => by rw [hKD _ (by omega), hJ.2.2.2.2.1 _ (by omega)]) (by rw [hKZ 1 (by decide), hJ.2.2.2.2.2 1 (by decide)])) H.size) (cwV 2 hts (gdV wt4_230 wt4_232 ws4_11 wt1_8 wt4_233) rfl rfl rfl ⟨rfl, by decide, by decide, by decide +kernel⟩ ⟨by decide, by decide⟩) (preV (q := ("MacroReckonerModel", TMo, 23)) hK hP hD hS hA XN_ok trivial [0, 1, 2, 3, 4, 5, 6, 7, 8, 9, 10, 11, 12, 13] rfl rfl 0 rfl rfl) rfl rfl hl.1 rfl (lv_room (Nat.le_of_ble_eq_true rfl)) dMo_divide_37 ⟨Nat.zero_le _, Nat.zero_le _⟩) hP hD hS hA [0, 1, 2, 3, 4, 5, 6, 7, 8, 9, 10, 11, 12, 13] [] rfl (fun v_ => wMo dA mo ft lf hg kk tx pn tk fm tO tl mI mT mS mC mL mB mF mU mX mP mK D8 Z8 []) (fun _ => rfl) ([] : va_W) rfl (fun _ => rfl) [mo, mo + 1, mo + 2, mo + 3, mo + 4, mo + 5, mo + 6, mo + 7, mo + 8, mo + 9, mo + 10, mo + 11, mo + 12, mo + 13] rfl (fun _ => rfl) (fun _ => rfl) (fun r37 u_ H locs hq37 hP hD hS => ?_)
            have hP : va_P (dC, dI) vwCl (wMo dA mo ft lf hg kk tx pn tk fm tO tl mI mT mS mC mL mB mF mU mX mP mK D8 Z8 []) H := hP
            have hD : va_D A (wMo dA mo ft lf hg kk tx pn tk fm tO tl mI mT mS mC mL mB mF mU mX mP mK D8 Z8 []) := hD
            have hq37 : ((((N / PW 10 (d + 1) % M * 10 + mD d) - n8 * M) < M ∧ r37 < 0) ∨ (((N / PW 10 (d + 1) % M * 10 + mD d) - n8 * M) = M ∧ r37 = 0) ∨ (M < ((N / PW 10 (d + 1) % M * 10 + mD d) - n8 * M) ∧ 0 < r37)) ∧ -400 ≤ r37 ∧ r37 ≤ 400 := hq37
            refine iv_if_lt (tgt := 55) hx hb dMo_divide_40 (by decide) ⟨by omega, by omega⟩ (fun hc40 => ?_) (fun hc40 => ?_)
            · refine lv_aload_n hx hb dMo_divide_55 rfl (lv_at hl 2 rfl) ?_
              refine va_get (D := (dC, dI)) (ci := 7) (v := .ref (mo + 12)) (C := "MacroReckonerModel") (T := TMo) (N := 23) hx hb hts inMo hown hK hP 0 rfl rfl 21 (by decide) (hts _ wt4_79) (fun _ h9 => h9) rfl dMo_divide_56 ?_
              refine lv_sipush (v := iI 680) hx hb dMo_divide_59 (by decide) ?_
              refine lv_iload_n hx hb dMo_divide_62 rfl (lv_at hl 1 rfl) ?_
              refine iv_iadd hx hb dMo_divide_63 ?_
              refine lv_iload_n hx hb dMo_divide_64 rfl (lv_at hl 0 rfl) ?_
              refine iv_iast (v := n8) hx hb hK hP hD hS 12 0 rfl rfl (by decide) dMo_divide_65 (by omega) (by omega) (fun H locs hP hD hS => ?_)
              have hP : va_P (dC, dI) vwCl (wMo dA mo ft lf hg kk tx pn tk fm tO tl mI mT mS mC mL mB mF mU mX mP mK (up D8 (680 + d) n8) Z8 []) H := hP
              have hD : va_D A (wMo dA mo ft lf hg kk tx pn tk fm tO tl mI mT mS mC mL mB mF mU mX mP mK (up D8 (680 + d) n8) Z8 []) := hD
              refine lv_iinc (k := 1) (lv' := [(1, .int (iI (d - 1))), (2, .int (iI n8)), (0, .ref mo)]) (v := iI (d - 1)) hx hb dMo_divide_66 hl rfl (by rw [show (Int32.ofInt (-1)) = iI (-1) from rfl, ← iI_add]; congr 1) (by decide) rfl (fun ls hl => ?_)
              refine lv_goto (tgt := 16) hx hb dMo_divide_69 (by decide) ?_
              exact ih16 (up D8 (680 + d) n8) Z8 (d - 1) H locs ls (by exact mq_s hM hpos hJ (by omega) hn8.1 hK1 (by omega) hKD hKZ) (by omega) hP hD hS (lv_sub hl [0, 2] rfl)
            · refine lv_aload_n hx hb dMo_divide_43 rfl (lv_at hl 2 rfl) ?_
              refine lv_iconst (v := iI 3) hx hb dMo_divide_44 rfl ?_
              refine lv_iconst (v := iI 1) hx hb dMo_divide_45 rfl ?_
              refine cv_v (va_runV (C := "MacroReckonerModel") (As := [.int (iI 3), .int (iI 1)]) (rest := []) ⟨hx, hb, hml, hown, hts⟩ (cMo_decrease l dC dI dA mo ft lf hg kk tx pn tk fm tO tl mI mT mS mC mL mB mF mU mX mP mK D8 Z8 3 1 ((N / PW 10 (d + 1) % M * 10 + mD d) - n8 * M) M (by omega) (by exact hK1) (by exact MR_f hM2 (fun t x y => by rw [hKD _ (by omega), hJ.2.2.2.2.1 _ (by omega)]) (by rw [hKZ 1 (by decide), hJ.2.2.2.2.2 1 (by decide)])) (by omega) H.size) (cwV 2 hts (gdV wt5_17 wt5_19 ws5_1 wt1_8 wt5_20) rfl rfl rfl ⟨rfl, by decide, by decide, by decide +kernel⟩ ⟨by decide, by decide⟩) (preV (q := ("MacroReckonerModel", TMo, 23)) hK hP hD hS hA XN_ok trivial [0, 1, 2, 3, 4, 5, 6, 7, 8, 9, 10, 11, 12, 13] rfl rfl 0 rfl rfl) rfl rfl hl.1 rfl (lv_room (Nat.le_of_ble_eq_true rfl)) dMo_divide_46 ⟨Nat.zero_le _, Nat.zero_le _⟩) hP hD hS hA [0, 1, 2, 3, 4, 5, 6, 7, 8, 9, 10, 11, 12, 13] [] rfl (fun v_ => wMo dA mo ft lf hg kk tx pn tk fm tO tl mI mT mS mC mL mB mF mU mX mP mK v_.1 v_.2 []) (fun _ => rfl) ([] : va_W) rfl (fun _ => rfl) [mo, mo + 1, mo + 2, mo + 3, mo + 4, mo + 5, mo + 6, mo + 7, mo + 8, mo + 9, mo + 10, mo + 11, mo + 12, mo + 13] rfl (fun _ => rfl) (fun _ => rfl) (fun u_ H locs hq46 hP hD hS => ?_)
              obtain ⟨D1_46, Z1_46⟩ := u_
              have hP : va_P (dC, dI) vwCl (wMo dA mo ft lf hg kk tx pn tk fm tO tl mI mT mS mC mL mB mF mU mX mP mK D1_46 Z1_46 []) H := hP
              have hD : va_D A (wMo dA mo ft lf hg kk tx pn tk fm tO tl mI mT mS mC mL mB mF mU mX mP mK D1_46 Z1_46 []) := hD
              have hq46 : MR D1_46 Z1_46 3 (((N / PW 10 (d + 1) % M * 10 + mD d) - n8 * M) - M) ∧ others D8 Z8 D1_46 Z1_46 3 := hq46
              refine lv_iinc (k := 0) (lv' := [(2, .int (iI (n8 + 1))), (1, .int (iI d)), (0, .ref mo)]) (v := iI (n8 + 1)) hx hb dMo_divide_49 hl rfl (iI_add _ _).symm (by decide) rfl (fun ls hl => ?_)
              refine lv_goto (tgt := 34) hx hb dMo_divide_52 (by decide) ?_
              exact ih34 D1_46 Z1_46 (n8 + 1) H locs ls (by have := mq_n (n := n8 + 1) hpos hX4 (by rw [Int.add_mul, Int.one_mul]; omega); omega) (by rw [show (n8 + 1) * M = n8 * M + M by rw [Int.add_mul, Int.one_mul], ← Int.sub_sub]; exact hq46.1) (by intro p x; rw [hq46.2.1 p (by omega)]; exact hKD p x) (by intro t x; rw [hq46.2.2 t x]; exact hKZ t x) (by omega) hP hD hS (lv_sub hl [0, 1, 2] rfl)
        exact L34 _ D1_29 Z1_29 0 H locs ls (by omega) (by rw [Int.zero_mul, Int.sub_zero, ← hX1]; exact hA9.2) (by intro p x; exact hq29.2.1 p (by omega)) (by intro t x; exact hq29.2.2 t x) (Nat.lt_succ_self _) hP hD hS (lv_sub hl [0, 1, 2] rfl)
  exact L16 _ mD (up mZ 3 0) ((((up mZ 3 0)) 0) - 1) H locs ls (by rw [show up mZ 3 0 0 = mZ 0 from up_n (by decide)]; exact mq_0 hM) (Nat.lt_succ_self _) hP hD hS (lv_sub hl [0, 1] rfl)
