theorem dMo_move_0 : decode prog_9_method_15_code 0 = .ok (.aload_n 0, 1) := by decide +kernel
theorem dMo_move_1 : decode prog_9_method_15_code 1 = .ok (.getfield 13, 3) := by decide +kernel
theorem dMo_move_4 : decode prog_9_method_15_code 4 = .ok (.iload_n 1, 1) := by decide +kernel
theorem dMo_move_5 : decode prog_9_method_15_code 5 = .ok (.aload_n 0, 1) := by decide +kernel
theorem dMo_move_6 : decode prog_9_method_15_code 6 = .ok (.getfield 13, 3) := by decide +kernel
theorem dMo_move_9 : decode prog_9_method_15_code 9 = .ok (.iload_n 2, 1) := by decide +kernel
theorem dMo_move_10 : decode prog_9_method_15_code 10 = .ok (.baload, 1) := by decide +kernel
theorem dMo_move_11 : decode prog_9_method_15_code 11 = .ok (.bastore, 1) := by decide +kernel
theorem dMo_move_12 : decode prog_9_method_15_code 12 = .ok (.aload_n 0, 1) := by decide +kernel
theorem dMo_move_13 : decode prog_9_method_15_code 13 = .ok (.getfield 17, 3) := by decide +kernel
theorem dMo_move_16 : decode prog_9_method_15_code 16 = .ok (.iload_n 1, 1) := by decide +kernel
theorem dMo_move_17 : decode prog_9_method_15_code 17 = .ok (.aload_n 0, 1) := by decide +kernel
theorem dMo_move_18 : decode prog_9_method_15_code 18 = .ok (.getfield 17, 3) := by decide +kernel
theorem dMo_move_21 : decode prog_9_method_15_code 21 = .ok (.iload_n 2, 1) := by decide +kernel
theorem dMo_move_22 : decode prog_9_method_15_code 22 = .ok (.iaload, 1) := by decide +kernel
theorem dMo_move_23 : decode prog_9_method_15_code 23 = .ok (.iastore, 1) := by decide +kernel
theorem dMo_move_24 : decode prog_9_method_15_code 24 = .ok (.aload_n 0, 1) := by decide +kernel
theorem dMo_move_25 : decode prog_9_method_15_code 25 = .ok (.getfield 20, 3) := by decide +kernel
theorem dMo_move_28 : decode prog_9_method_15_code 28 = .ok (.iload_n 1, 1) := by decide +kernel
theorem dMo_move_29 : decode prog_9_method_15_code 29 = .ok (.aload_n 0, 1) := by decide +kernel
theorem dMo_move_30 : decode prog_9_method_15_code 30 = .ok (.getfield 20, 3) := by decide +kernel
theorem dMo_move_33 : decode prog_9_method_15_code 33 = .ok (.iload_n 2, 1) := by decide +kernel
theorem dMo_move_34 : decode prog_9_method_15_code 34 = .ok (.iaload, 1) := by decide +kernel
theorem dMo_move_35 : decode prog_9_method_15_code 35 = .ok (.iastore, 1) := by decide +kernel
theorem dMo_move_36 : decode prog_9_method_15_code 36 = .ok (.aload_n 0, 1) := by decide +kernel
theorem dMo_move_37 : decode prog_9_method_15_code 37 = .ok (.getfield 23, 3) := by decide +kernel
theorem dMo_move_40 : decode prog_9_method_15_code 40 = .ok (.iload_n 1, 1) := by decide +kernel
theorem dMo_move_41 : decode prog_9_method_15_code 41 = .ok (.aload_n 0, 1) := by decide +kernel
theorem dMo_move_42 : decode prog_9_method_15_code 42 = .ok (.getfield 23, 3) := by decide +kernel
theorem dMo_move_45 : decode prog_9_method_15_code 45 = .ok (.iload_n 2, 1) := by decide +kernel
theorem dMo_move_46 : decode prog_9_method_15_code 46 = .ok (.iaload, 1) := by decide +kernel
theorem dMo_move_47 : decode prog_9_method_15_code 47 = .ok (.iastore, 1) := by decide +kernel
theorem dMo_move_48 : decode prog_9_method_15_code 48 = .ok (.iconst 0, 1) := by decide +kernel
theorem dMo_move_49 : decode prog_9_method_15_code 49 = .ok (.istore_n 3, 1) := by decide +kernel
theorem dMo_move_50 : decode prog_9_method_15_code 50 = .ok (.iload_n 3, 1) := by decide +kernel
theorem dMo_move_51 : decode prog_9_method_15_code 51 = .ok (.bipush 60, 2) := by decide +kernel
theorem dMo_move_53 : decode prog_9_method_15_code 53 = .ok (.if_icmp .ge 31, 3) := by decide +kernel
theorem dMo_move_56 : decode prog_9_method_15_code 56 = .ok (.aload_n 0, 1) := by decide +kernel
theorem dMo_move_57 : decode prog_9_method_15_code 57 = .ok (.getfield 26, 3) := by decide +kernel
theorem dMo_move_60 : decode prog_9_method_15_code 60 = .ok (.bipush 60, 2) := by decide +kernel
theorem dMo_move_62 : decode prog_9_method_15_code 62 = .ok (.iload_n 1, 1) := by decide +kernel
theorem dMo_move_63 : decode prog_9_method_15_code 63 = .ok (.imul, 1) := by decide +kernel
theorem dMo_move_64 : decode prog_9_method_15_code 64 = .ok (.iload_n 3, 1) := by decide +kernel
theorem dMo_move_65 : decode prog_9_method_15_code 65 = .ok (.iadd, 1) := by decide +kernel
theorem dMo_move_66 : decode prog_9_method_15_code 66 = .ok (.aload_n 0, 1) := by decide +kernel
theorem dMo_move_67 : decode prog_9_method_15_code 67 = .ok (.getfield 26, 3) := by decide +kernel
theorem dMo_move_70 : decode prog_9_method_15_code 70 = .ok (.bipush 60, 2) := by decide +kernel
theorem dMo_move_72 : decode prog_9_method_15_code 72 = .ok (.iload_n 2, 1) := by decide +kernel
theorem dMo_move_73 : decode prog_9_method_15_code 73 = .ok (.imul, 1) := by decide +kernel
theorem dMo_move_74 : decode prog_9_method_15_code 74 = .ok (.iload_n 3, 1) := by decide +kernel
theorem dMo_move_75 : decode prog_9_method_15_code 75 = .ok (.iadd, 1) := by decide +kernel
theorem dMo_move_76 : decode prog_9_method_15_code 76 = .ok (.iaload, 1) := by decide +kernel
theorem dMo_move_77 : decode prog_9_method_15_code 77 = .ok (.iastore, 1) := by decide +kernel
theorem dMo_move_78 : decode prog_9_method_15_code 78 = .ok (.iinc 3 1, 3) := by decide +kernel
theorem dMo_move_81 : decode prog_9_method_15_code 81 = .ok (.goto (-31), 3) := by decide +kernel
theorem dMo_move_84 : decode prog_9_method_15_code 84 = .ok (.return_, 1) := by decide +kernel
abbrev qMo_move (dC : Nat → ClassId) (dI : Nat → Nat → Nat) (dA : Nat → ClassId) (mo : Nat) (ft : Int) (lf : Int) (hg : Int) (kk : Int) (tx : Int) (pn : Int) (tk : Int) (fm : Int) (tO : Int) (tl : Int) (mI : Int → Int) (mT : Int → Int) (mS : Int → Int) (mC : Int → Int) (mL : Int → Int) (mB : Int → Int) (mF : Int → Int) (mU : Int → Int) (mX : Int → Int) (mP : Int → Int) (mK : Int → Int) (mD : Int → Int) (mZ : Int → Int) (th : Int) (ot : Int) (A : Nat → Prop) : Array Value → State → Outcome → State → Prop := QV (dC, dI) vwCl (tyA dA) (fun (v_ : (Int → Int) × (Int → Int) × (Int → Int) × (Int → Int) × (Int → Int)) => (∀ a, MT mT mS mC mL mB ot a → MT v_.1 v_.2.1 v_.2.2.1 v_.2.2.2.1 v_.2.2.2.2 th a) ∧ thO mT mS mC mL mB v_.1 v_.2.1 v_.2.2.1 v_.2.2.2.1 v_.2.2.2.2 th) (fun (v_ : (Int → Int) × (Int → Int) × (Int → Int) × (Int → Int) × (Int → Int)) => wMo dA mo ft lf hg kk tx pn tk fm tO tl mI v_.1 v_.2.1 v_.2.2.1 v_.2.2.2.1 v_.2.2.2.2 mF mU mX mP mK mD mZ []) A
abbrev rmMo_move : Room := { frames := 0, cells := 0, slots := 0, locals := 0 }
set_option maxRecDepth 100000 in
set_option maxHeartbeats 1000000 in
theorem cMo_move (l : Launch) (dC : Nat → ClassId) (dI : Nat → Nat → Nat) (dA : Nat → ClassId) (mo : Nat) (ft : Int) (lf : Int) (hg : Int) (kk : Int) (tx : Int) (pn : Int) (tk : Int) (fm : Int) (tO : Int) (tl : Int) (mI : Int → Int) (mT : Int → Int) (mS : Int → Int) (mC : Int → Int) (mL : Int → Int) (mB : Int → Int) (mF : Int → Int) (mU : Int → Int) (mX : Int → Int) (mP : Int → Int) (mK : Int → Int) (mD : Int → Int) (mZ : Int → Int) (th : Int) (ot : Int) (hth : 0 ≤ th ∧ th ≤ 46 ∧ 0 ≤ ot ∧ ot ≤ 46 ∧ th ≠ ot) (hbo : mT ot = 0 ∨ mT ot = 1) (sz : Nat) : Met l yMo_move wsMo_move rmMo_move (PC (dC, dI) vwCl (tyA dA) XN [.ref mo, .int (iI th), .int (iI ot)] (wMo dA mo ft lf hg kk tx pn tk fm tO tl mI mT mS mC mL mB mF mU mX mP mK mD mZ []) sz) (qMo_move dC dI dA mo ft lf hg kk tx pn tk fm tO tl mI mT mS mC mL mB mF mU mX mP mK mD mZ th ot (va_A (wMo dA mo ft lf hg kk tx pn tk fm tO tl mI mT mS mC mL mB mF mU mX mP mK mD mZ []) sz)) 0 0 (va_A (wMo dA mo ft lf hg kk tx pn tk fm tO tl mI mT mS mC mL mB mF mU mX mP mK mD mZ []) sz) := by
  refine met_of (cc := prog_9_method_15_code) (maxL := 4) (ret := none) (Qc := qMo_move dC dI dA mo ft lf hg kk tx pn tk fm tO tl mI mT mS mC mL mB mF mU mX mP mK mD mZ th ot) XN_ok (by decide) rfl (Nat.le_of_ble_eq_true rfl) ?_
  intro p e s m below meth c ls A hx hb hr hml hown hts hlocks hnm hK hP hD hA hX hS hl
  have hl : lv_has ls 4 [(0, .ref mo), (1, .int (iI th)), (2, .int (iI ot))] := hl
  have hown : s.vm.findClass "MacroReckonerModel" = some m.cls := hown
  obtain ⟨H, hH⟩ : ∃ H : Heap, H = s.heap := ⟨_, rfl⟩
  obtain ⟨locs, hlo⟩ : ∃ L : List Loc, L = [] := ⟨_, rfl⟩
  have hP : va_P (dC, dI) vwCl (wMo dA mo ft lf hg kk tx pn tk fm tO tl mI mT mS mC mL mB mF mU mX mP mK mD mZ []) H := hH ▸ hP
  have hS : va_S A s.heap H locs := by rw [hH, hlo]; exact hS
  suffices hgo : W p l e rmMo_move s m [.ref mo, .int (iI th), .int (iI ot)].toArray below meth c H locs 0 0 (MQ below (qMo_move dC dI dA mo ft lf hg kk tx pn tk fm tO tl mI mT mS mC mL mB mF mU mX mP mK mD mZ th ot A) [.ref mo, .int (iI th), .int (iI ot)].toArray s 0 0 A) (F0 m 0 ls []) by rw [hH, hlo] at hgo; exact hgo
  clear hH hlo
  refine lv_aload_n hx hb dMo_move_0 rfl (lv_at hl 0 rfl) ?_
  refine va_get (D := (dC, dI)) (ci := 7) (v := .ref (mo + 2)) (C := "MacroReckonerModel") (T := TMo) (N := 23) hx hb hts inMo hown hK hP 0 rfl rfl 3 (by decide) (hts _ wt4_61) (fun _ h9 => h9) rfl dMo_move_1 ?_
  refine lv_iload_n hx hb dMo_move_4 rfl (lv_at hl 1 rfl) ?_
  refine lv_aload_n hx hb dMo_move_5 rfl (lv_at hl 0 rfl) ?_
  refine va_get (D := (dC, dI)) (ci := 7) (v := .ref (mo + 2)) (C := "MacroReckonerModel") (T := TMo) (N := 23) hx hb hts inMo hown hK hP 0 rfl rfl 3 (by decide) (hts _ wt4_61) (fun _ h9 => h9) rfl dMo_move_6 ?_
  refine lv_iload_n hx hb dMo_move_9 rfl (lv_at hl 2 rfl) ?_
  refine iv_zald hx hb hK hP 2 2 rfl rfl (by decide) dMo_move_10 (by omega) (by omega) ?_
  refine iv_zast (v := mT ot) hx hb hK hP hD hS 2 2 rfl rfl (by decide) dMo_move_11 (by omega) (by omega) (by omega) (fun H locs hP hD hS => ?_)
  have hP : va_P (dC, dI) vwCl (wMo dA mo ft lf hg kk tx pn tk fm tO tl mI (up mT th (mT ot)) mS mC mL mB mF mU mX mP mK mD mZ []) H := hP
  have hD : va_D A (wMo dA mo ft lf hg kk tx pn tk fm tO tl mI (up mT th (mT ot)) mS mC mL mB mF mU mX mP mK mD mZ []) := hD
  refine lv_aload_n hx hb dMo_move_12 rfl (lv_at hl 0 rfl) ?_
  refine va_get (D := (dC, dI)) (ci := 7) (v := .ref (mo + 3)) (C := "MacroReckonerModel") (T := TMo) (N := 23) hx hb hts inMo hown hK hP 0 rfl rfl 4 (by decide) (hts _ wt4_62) (fun _ h9 => h9) rfl dMo_move_13 ?_
  refine lv_iload_n hx hb dMo_move_16 rfl (lv_at hl 1 rfl) ?_
  refine lv_aload_n hx hb dMo_move_17 rfl (lv_at hl 0 rfl) ?_
  refine va_get (D := (dC, dI)) (ci := 7) (v := .ref (mo + 3)) (C := "MacroReckonerModel") (T := TMo) (N := 23) hx hb hts inMo hown hK hP 0 rfl rfl 4 (by decide) (hts _ wt4_62) (fun _ h9 => h9) rfl dMo_move_18 ?_
  refine lv_iload_n hx hb dMo_move_21 rfl (lv_at hl 2 rfl) ?_
  refine iv_iald hx hb hK hP 3 0 rfl rfl (by decide) dMo_move_22 (by omega) (by omega) ?_
  refine iv_iast (v := mS ot) hx hb hK hP hD hS 3 0 rfl rfl (by decide) dMo_move_23 (by omega) (by omega) (fun H locs hP hD hS => ?_)
  have hP : va_P (dC, dI) vwCl (wMo dA mo ft lf hg kk tx pn tk fm tO tl mI (up mT th (mT ot)) (up mS th (mS ot)) mC mL mB mF mU mX mP mK mD mZ []) H := hP
  have hD : va_D A (wMo dA mo ft lf hg kk tx pn tk fm tO tl mI (up mT th (mT ot)) (up mS th (mS ot)) mC mL mB mF mU mX mP mK mD mZ []) := hD
  refine lv_aload_n hx hb dMo_move_24 rfl (lv_at hl 0 rfl) ?_
  refine va_get (D := (dC, dI)) (ci := 7) (v := .ref (mo + 4)) (C := "MacroReckonerModel") (T := TMo) (N := 23) hx hb hts inMo hown hK hP 0 rfl rfl 5 (by decide) (hts _ wt4_63) (fun _ h9 => h9) rfl dMo_move_25 ?_
  refine lv_iload_n hx hb dMo_move_28 rfl (lv_at hl 1 rfl) ?_
  refine lv_aload_n hx hb dMo_move_29 rfl (lv_at hl 0 rfl) ?_
  refine va_get (D := (dC, dI)) (ci := 7) (v := .ref (mo + 4)) (C := "MacroReckonerModel") (T := TMo) (N := 23) hx hb hts inMo hown hK hP 0 rfl rfl 5 (by decide) (hts _ wt4_63) (fun _ h9 => h9) rfl dMo_move_30 ?_
  refine lv_iload_n hx hb dMo_move_33 rfl (lv_at hl 2 rfl) ?_
  refine iv_iald hx hb hK hP 4 0 rfl rfl (by decide) dMo_move_34 (by omega) (by omega) ?_
  refine iv_iast (v := mC ot) hx hb hK hP hD hS 4 0 rfl rfl (by decide) dMo_move_35 (by omega) (by omega) (fun H locs hP hD hS => ?_)
  have hP : va_P (dC, dI) vwCl (wMo dA mo ft lf hg kk tx pn tk fm tO tl mI (up mT th (mT ot)) (up mS th (mS ot)) (up mC th (mC ot)) mL mB mF mU mX mP mK mD mZ []) H := hP
  have hD : va_D A (wMo dA mo ft lf hg kk tx pn tk fm tO tl mI (up mT th (mT ot)) (up mS th (mS ot)) (up mC th (mC ot)) mL mB mF mU mX mP mK mD mZ []) := hD
  refine lv_aload_n hx hb dMo_move_36 rfl (lv_at hl 0 rfl) ?_
  refine va_get (D := (dC, dI)) (ci := 7) (v := .ref (mo + 5)) (C := "MacroReckonerModel") (T := TMo) (N := 23) hx hb hts inMo hown hK hP 0 rfl rfl 6 (by decide) (hts _ wt4_64) (fun _ h9 => h9) rfl dMo_move_37 ?_
  refine lv_iload_n hx hb dMo_move_40 rfl (lv_at hl 1 rfl) ?_
  refine lv_aload_n hx hb dMo_move_41 rfl (lv_at hl 0 rfl) ?_
  refine va_get (D := (dC, dI)) (ci := 7) (v := .ref (mo + 5)) (C := "MacroReckonerModel") (T := TMo) (N := 23) hx hb hts inMo hown hK hP 0 rfl rfl 6 (by decide) (hts _ wt4_64) (fun _ h9 => h9) rfl dMo_move_42 ?_
  refine lv_iload_n hx hb dMo_move_45 rfl (lv_at hl 2 rfl) ?_
  refine iv_iald hx hb hK hP 5 0 rfl rfl (by decide) dMo_move_46 (by omega) (by omega) ?_
  refine iv_iast (v := mL ot) hx hb hK hP hD hS 5 0 rfl rfl (by decide) dMo_move_47 (by omega) (by omega) (fun H locs hP hD hS => ?_)
  have hP : va_P (dC, dI) vwCl (wMo dA mo ft lf hg kk tx pn tk fm tO tl mI (up mT th (mT ot)) (up mS th (mS ot)) (up mC th (mC ot)) (up mL th (mL ot)) mB mF mU mX mP mK mD mZ []) H := hP
  have hD : va_D A (wMo dA mo ft lf hg kk tx pn tk fm tO tl mI (up mT th (mT ot)) (up mS th (mS ot)) (up mC th (mC ot)) (up mL th (mL ot)) mB mF mU mX mP mK mD mZ []) := hD
  refine lv_iconst (v := iI 0) hx hb dMo_move_48 rfl ?_
  refine lv_istore_n (lv' := [(3, .int (iI 0)), (0, .ref mo), (1, .int (iI th)), (2, .int (iI ot))]) hx hb dMo_move_49 rfl hl (by decide) rfl (fun ls hl => ?_)
  have L50 : ∀ (n : Nat) (B9 : Int → Int) (j : Int) (H : Heap) (locs : List Loc) (ls : Array Slot), (0 ≤ j ∧ j ≤ 60) → (∀ t, 0 ≤ t → t < j → B9 (60 * th + t) = mB (60 * ot + t)) → (∀ p, p < 60 * th ∨ 60 * th + 60 ≤ p → B9 p = mB p) → (60 - j).toNat < n → va_P (dC, dI) vwCl (wMo dA mo ft lf hg kk tx pn tk fm tO tl mI (up mT th (mT ot)) (up mS th (mS ot)) (up mC th (mC ot)) (up mL th (mL ot)) B9 mF mU mX mP mK mD mZ []) H → va_D A (wMo dA mo ft lf hg kk tx pn tk fm tO tl mI (up mT th (mT ot)) (up mS th (mS ot)) (up mC th (mC ot)) (up mL th (mL ot)) B9 mF mU mX mP mK mD mZ []) → va_S A s.heap H locs → lv_has ls 4 [(3, .int (iI j)), (0, .ref mo), (1, .int (iI th)), (2, .int (iI ot))] → W p l e rmMo_move s m [.ref mo, .int (iI th), .int (iI ot)].toArray below meth c H locs 0 0 (MQ below (qMo_move dC dI dA mo ft lf hg kk tx pn tk fm tO tl mI mT mS mC mL mB mF mU mX mP mK mD mZ th ot A) [.ref mo, .int (iI th), .int (iI ot)].toArray s 0 0 A) (F0 m 50 ls []) := by
    intro n
    induction n with
    | zero => intro B9 j H locs ls hj h0 ho hn; omega
    | succ n ih =>
      intro B9 j H locs ls hj h0 ho hn hP hD hS hl
      have ih50 := ih
      refine lv_iload_n hx hb dMo_move_50 rfl (lv_at hl 0 rfl) ?_
      refine lv_bipush (v := iI 60) hx hb dMo_move_51 (by decide) ?_
      refine iv_icmp_ge (tgt := 84) hx hb dMo_move_53 (by decide) ⟨by omega, by omega⟩ ⟨by decide, by decide⟩ (fun hc53 => ?_) (fun hc53 => ?_)
      · exact rt_v hx hb hr hlocks hK hS dMo_move_84 (up mT th (mT ot), up mS th (mS ot), up mC th (mC ot), up mL th (mL ot), B9) hP hD (show (∀ a, MT mT mS mC mL mB ot a → MT (up mT th (mT ot)) (up mS th (mS ot)) (up mC th (mC ot)) (up mL th (mL ot)) B9 th a) ∧ thO mT mS mC mL mB (up mT th (mT ot)) (up mS th (mS ot)) (up mC th (mC ot)) (up mL th (mL ot)) B9 th from by exact ⟨fun a ha => MT_f ha up_s up_s up_s up_s (fun t x y => h0 t x (by omega)), ⟨fun t x => ⟨up_n x, up_n x, up_n x, up_n x⟩, ho⟩⟩)
      · refine lv_aload_n hx hb dMo_move_56 rfl (lv_at hl 1 rfl) ?_
        refine va_get (D := (dC, dI)) (ci := 7) (v := .ref (mo + 6)) (C := "MacroReckonerModel") (T := TMo) (N := 23) hx hb hts inMo hown hK hP 0 rfl rfl 7 (by decide) (hts _ wt4_65) (fun _ h9 => h9) rfl dMo_move_57 ?_
        refine lv_bipush (v := iI 60) hx hb dMo_move_60 (by decide) ?_
        refine lv_iload_n hx hb dMo_move_62 rfl (lv_at hl 2 rfl) ?_
        refine iv_imul hx hb dMo_move_63 ?_
        refine lv_iload_n hx hb dMo_move_64 rfl (lv_at hl 0 rfl) ?_
        refine iv_iadd hx hb dMo_move_65 ?_
        refine lv_aload_n hx hb dMo_move_66 rfl (lv_at hl 1 rfl) ?_
        refine va_get (D := (dC, dI)) (ci := 7) (v := .ref (mo + 6)) (C := "MacroReckonerModel") (T := TMo) (N := 23) hx hb hts inMo hown hK hP 0 rfl rfl 7 (by decide) (hts _ wt4_65) (fun _ h9 => h9) rfl dMo_move_67 ?_
        refine lv_bipush (v := iI 60) hx hb dMo_move_70 (by decide) ?_
        refine lv_iload_n hx hb dMo_move_72 rfl (lv_at hl 3 rfl) ?_
        refine iv_imul hx hb dMo_move_73 ?_
        refine lv_iload_n hx hb dMo_move_74 rfl (lv_at hl 0 rfl) ?_
        refine iv_iadd hx hb dMo_move_75 ?_
        refine iv_iald hx hb hK hP 6 0 rfl rfl (by decide) dMo_move_76 (by omega) (by omega) ?_
        refine iv_iast (v := B9 ((60 * ot) + j)) hx hb hK hP hD hS 6 0 rfl rfl (by decide) dMo_move_77 (by omega) (by omega) (fun H locs hP hD hS => ?_)
        have hP : va_P (dC, dI) vwCl (wMo dA mo ft lf hg kk tx pn tk fm tO tl mI (up mT th (mT ot)) (up mS th (mS ot)) (up mC th (mC ot)) (up mL th (mL ot)) (up B9 ((60 * th) + j) (B9 ((60 * ot) + j))) mF mU mX mP mK mD mZ []) H := hP
        have hD : va_D A (wMo dA mo ft lf hg kk tx pn tk fm tO tl mI (up mT th (mT ot)) (up mS th (mS ot)) (up mC th (mC ot)) (up mL th (mL ot)) (up B9 ((60 * th) + j) (B9 ((60 * ot) + j))) mF mU mX mP mK mD mZ []) := hD
        refine lv_iinc (k := 0) (lv' := [(3, .int (iI (j + 1))), (0, .ref mo), (1, .int (iI th)), (2, .int (iI ot))]) (v := iI (j + 1)) hx hb dMo_move_78 hl rfl (iI_add _ _).symm (by decide) rfl (fun ls hl => ?_)
        refine lv_goto (tgt := 50) hx hb dMo_move_81 (by decide) ?_
        exact ih50 (up B9 ((60 * th) + j) (B9 ((60 * ot) + j))) (j + 1) H locs ls (by omega) (by intro t x y; by_cases z : t = j; rw [z, up_s]; exact ho _ (by omega); rw [up_n (by omega)]; exact h0 t x (by omega)) (by intro p x; rw [up_n (by omega)]; exact ho p x) (by omega) hP hD hS (lv_sub hl [0, 1, 2, 3] rfl)
  exact L50 _ mB 0 H locs ls (by omega) (by intro t x y; omega) (by intro p _; rfl) (Nat.lt_succ_self _) hP hD hS (lv_sub hl [0, 1, 2, 3] rfl)

theorem dMo_make_0 : decode prog_9_method_16_code 0 = .ok (.aload_n 0, 1) := by decide +kernel
theorem dMo_make_1 : decode prog_9_method_16_code 1 = .ok (.getfield 47, 3) := by decide +kernel
theorem dMo_make_4 : decode prog_9_method_16_code 4 = .ok (.iload_n 1, 1) := by decide +kernel
theorem dMo_make_5 : decode prog_9_method_16_code 5 = .ok (.iaload, 1) := by decide +kernel
theorem dMo_make_6 : decode prog_9_method_16_code 6 = .ok (.bipush 60, 2) := by decide +kernel
theorem dMo_make_8 : decode prog_9_method_16_code 8 = .ok (.if_icmp .gt 9, 3) := by decide +kernel
theorem dMo_make_11 : decode prog_9_method_16_code 11 = .ok (.iload_n 3, 1) := by decide +kernel
theorem dMo_make_12 : decode prog_9_method_16_code 12 = .ok (.bipush 40, 2) := by decide +kernel
theorem dMo_make_14 : decode prog_9_method_16_code 14 = .ok (.if_icmp .le 6, 3) := by decide +kernel
theorem dMo_make_17 : decode prog_9_method_16_code 17 = .ok (.bipush (-7), 2) := by decide +kernel
theorem dMo_make_19 : decode prog_9_method_16_code 19 = .ok (.ireturn, 1) := by decide +kernel
theorem dMo_make_20 : decode prog_9_method_16_code 20 = .ok (.aload_n 0, 1) := by decide +kernel
theorem dMo_make_21 : decode prog_9_method_16_code 21 = .ok (.getfield 13, 3) := by decide +kernel
theorem dMo_make_24 : decode prog_9_method_16_code 24 = .ok (.bipush 46, 2) := by decide +kernel
theorem dMo_make_26 : decode prog_9_method_16_code 26 = .ok (.iconst 0, 1) := by decide +kernel
theorem dMo_make_27 : decode prog_9_method_16_code 27 = .ok (.bastore, 1) := by decide +kernel
theorem dMo_make_28 : decode prog_9_method_16_code 28 = .ok (.aload_n 0, 1) := by decide +kernel
theorem dMo_make_29 : decode prog_9_method_16_code 29 = .ok (.getfield 17, 3) := by decide +kernel
theorem dMo_make_32 : decode prog_9_method_16_code 32 = .ok (.bipush 46, 2) := by decide +kernel
theorem dMo_make_34 : decode prog_9_method_16_code 34 = .ok (.aload_n 0, 1) := by decide +kernel
theorem dMo_make_35 : decode prog_9_method_16_code 35 = .ok (.getfield 47, 3) := by decide +kernel
theorem dMo_make_38 : decode prog_9_method_16_code 38 = .ok (.iload_n 1, 1) := by decide +kernel
theorem dMo_make_39 : decode prog_9_method_16_code 39 = .ok (.iaload, 1) := by decide +kernel
theorem dMo_make_40 : decode prog_9_method_16_code 40 = .ok (.ifCond .ne 7, 3) := by decide +kernel
theorem dMo_make_43 : decode prog_9_method_16_code 43 = .ok (.iconst 0, 1) := by decide +kernel
theorem dMo_make_44 : decode prog_9_method_16_code 44 = .ok (.goto 4, 3) := by decide +kernel
theorem dMo_make_47 : decode prog_9_method_16_code 47 = .ok (.iload_n 2, 1) := by decide +kernel
theorem dMo_make_48 : decode prog_9_method_16_code 48 = .ok (.iastore, 1) := by decide +kernel
theorem dMo_make_49 : decode prog_9_method_16_code 49 = .ok (.aload_n 0, 1) := by decide +kernel
theorem dMo_make_50 : decode prog_9_method_16_code 50 = .ok (.getfield 20, 3) := by decide +kernel
theorem dMo_make_53 : decode prog_9_method_16_code 53 = .ok (.bipush 46, 2) := by decide +kernel
theorem dMo_make_55 : decode prog_9_method_16_code 55 = .ok (.iload_n 3, 1) := by decide +kernel
theorem dMo_make_56 : decode prog_9_method_16_code 56 = .ok (.iastore, 1) := by decide +kernel
theorem dMo_make_57 : decode prog_9_method_16_code 57 = .ok (.aload_n 0, 1) := by decide +kernel
theorem dMo_make_58 : decode prog_9_method_16_code 58 = .ok (.getfield 23, 3) := by decide +kernel
theorem dMo_make_61 : decode prog_9_method_16_code 61 = .ok (.bipush 46, 2) := by decide +kernel
theorem dMo_make_63 : decode prog_9_method_16_code 63 = .ok (.aload_n 0, 1) := by decide +kernel
theorem dMo_make_64 : decode prog_9_method_16_code 64 = .ok (.getfield 47, 3) := by decide +kernel
theorem dMo_make_67 : decode prog_9_method_16_code 67 = .ok (.iload_n 1, 1) := by decide +kernel
theorem dMo_make_68 : decode prog_9_method_16_code 68 = .ok (.iaload, 1) := by decide +kernel
theorem dMo_make_69 : decode prog_9_method_16_code 69 = .ok (.iastore, 1) := by decide +kernel
theorem dMo_make_70 : decode prog_9_method_16_code 70 = .ok (.iconst 0, 1) := by decide +kernel
theorem dMo_make_71 : decode prog_9_method_16_code 71 = .ok (.istore 4, 2) := by decide +kernel
theorem dMo_make_73 : decode prog_9_method_16_code 73 = .ok (.iload 4, 2) := by decide +kernel
theorem dMo_make_75 : decode prog_9_method_16_code 75 = .ok (.aload_n 0, 1) := by decide +kernel
theorem dMo_make_76 : decode prog_9_method_16_code 76 = .ok (.getfield 47, 3) := by decide +kernel
theorem dMo_make_79 : decode prog_9_method_16_code 79 = .ok (.iload_n 1, 1) := by decide +kernel
theorem dMo_make_80 : decode prog_9_method_16_code 80 = .ok (.iaload, 1) := by decide +kernel
theorem dMo_make_81 : decode prog_9_method_16_code 81 = .ok (.if_icmp .ge 33, 3) := by decide +kernel
theorem dMo_make_84 : decode prog_9_method_16_code 84 = .ok (.aload_n 0, 1) := by decide +kernel
theorem dMo_make_85 : decode prog_9_method_16_code 85 = .ok (.getfield 26, 3) := by decide +kernel
theorem dMo_make_88 : decode prog_9_method_16_code 88 = .ok (.sipush 2760, 3) := by decide +kernel
theorem dMo_make_91 : decode prog_9_method_16_code 91 = .ok (.iload 4, 2) := by decide +kernel
theorem dMo_make_93 : decode prog_9_method_16_code 93 = .ok (.iadd, 1) := by decide +kernel
theorem dMo_make_94 : decode prog_9_method_16_code 94 = .ok (.aload_n 0, 1) := by decide +kernel
theorem dMo_make_95 : decode prog_9_method_16_code 95 = .ok (.getfield 44, 3) := by decide +kernel
theorem dMo_make_98 : decode prog_9_method_16_code 98 = .ok (.sipush 340, 3) := by decide +kernel
theorem dMo_make_101 : decode prog_9_method_16_code 101 = .ok (.iload_n 1, 1) := by decide +kernel
theorem dMo_make_102 : decode prog_9_method_16_code 102 = .ok (.imul, 1) := by decide +kernel
theorem dMo_make_103 : decode prog_9_method_16_code 103 = .ok (.iload 4, 2) := by decide +kernel
theorem dMo_make_105 : decode prog_9_method_16_code 105 = .ok (.iadd, 1) := by decide +kernel
theorem dMo_make_106 : decode prog_9_method_16_code 106 = .ok (.iaload, 1) := by decide +kernel
theorem dMo_make_107 : decode prog_9_method_16_code 107 = .ok (.iastore, 1) := by decide +kernel
theorem dMo_make_108 : decode prog_9_method_16_code 108 = .ok (.iinc 4 1, 3) := by decide +kernel
theorem dMo_make_111 : decode prog_9_method_16_code 111 = .ok (.goto (-38), 3) := by decide +kernel
theorem dMo_make_114 : decode prog_9_method_16_code 114 = .ok (.iconst 0, 1) := by decide +kernel
theorem dMo_make_115 : decode prog_9_method_16_code 115 = .ok (.ireturn, 1) := by decide +kernel
abbrev qMo_make (dC : Nat → ClassId) (dI : Nat → Nat → Nat) (dA : Nat → ClassId) (mo : Nat) (ft : Int) (lf : Int) (hg : Int) (kk : Int) (tx : Int) (pn : Int) (tk : Int) (fm : Int) (tO : Int) (tl : Int) (mI : Int → Int) (mT : Int → Int) (mS : Int → Int) (mC : Int → Int) (mL : Int → Int) (mB : Int → Int) (mF : Int → Int) (mU : Int → Int) (mX : Int → Int) (mP : Int → Int) (mK : Int → Int) (mD : Int → Int) (mZ : Int → Int) (i : Int) (s0 : Int) (pl : Int) (N : Int) (Z0 : Int) (A : Nat → Prop) : Array Value → State → Outcome → State → Prop := QI (dC, dI) vwCl (tyA dA) (fun (r : Int) (v_ : (Int → Int) × (Int → Int) × (Int → Int) × (Int → Int) × (Int → Int)) => mres r Z0 pl v_.1 v_.2.1 v_.2.2.1 v_.2.2.2.1 v_.2.2.2.2 ∧ thO mT mS mC mL mB v_.1 v_.2.1 v_.2.2.1 v_.2.2.2.1 v_.2.2.2.2 46) (fun (v_ : (Int → Int) × (Int → Int) × (Int → Int) × (Int → Int) × (Int → Int)) => wMo dA mo ft lf hg kk tx pn tk fm tO tl mI v_.1 v_.2.1 v_.2.2.1 v_.2.2.2.1 v_.2.2.2.2 mF mU mX mP mK mD mZ []) A
abbrev rmMo_make : Room := { frames := 0, cells := 0, slots := 0, locals := 0 }
set_option maxRecDepth 100000 in
set_option maxHeartbeats 1000000 in
theorem cMo_make (l : Launch) (dC : Nat → ClassId) (dI : Nat → Nat → Nat) (dA : Nat → ClassId) (mo : Nat) (ft : Int) (lf : Int) (hg : Int) (kk : Int) (tx : Int) (pn : Int) (tk : Int) (fm : Int) (tO : Int) (tl : Int) (mI : Int → Int) (mT : Int → Int) (mS : Int → Int) (mC : Int → Int) (mL : Int → Int) (mB : Int → Int) (mF : Int → Int) (mU : Int → Int) (mX : Int → Int) (mP : Int → Int) (mK : Int → Int) (mD : Int → Int) (mZ : Int → Int) (i : Int) (s0 : Int) (pl : Int) (N : Int) (Z0 : Int) (hi : 0 ≤ i ∧ i ≤ 4) (hM : MR mD mZ i N) (hs : s0 = 1 ∨ s0 = -1 ∨ (s0 = 0 ∧ N = 0)) (hpl : 0 ≤ pl ∧ pl ≤ 1000) (hZ : sm s0 N = Z0) (sz : Nat) : Met l yMo_make wsMo_make rmMo_make (PC (dC, dI) vwCl (tyA dA) XN [.ref mo, .int (iI i), .int (iI s0), .int (iI pl)] (wMo dA mo ft lf hg kk tx pn tk fm tO tl mI mT mS mC mL mB mF mU mX mP mK mD mZ []) sz) (qMo_make dC dI dA mo ft lf hg kk tx pn tk fm tO tl mI mT mS mC mL mB mF mU mX mP mK mD mZ i s0 pl N Z0 (va_A (wMo dA mo ft lf hg kk tx pn tk fm tO tl mI mT mS mC mL mB mF mU mX mP mK mD mZ []) sz)) 0 0 (va_A (wMo dA mo ft lf hg kk tx pn tk fm tO tl mI mT mS mC mL mB mF mU mX mP mK mD mZ []) sz) := by
  refine met_of (cc := prog_9_method_16_code) (maxL := 5) (ret := (some .int)) (Qc := qMo_make dC dI dA mo ft lf hg kk tx pn tk fm tO tl mI mT mS mC mL mB mF mU mX mP mK mD mZ i s0 pl N Z0) XN_ok (by decide) rfl (Nat.le_of_ble_eq_true rfl) ?_
  intro p e s m below meth c ls A hx hb hr hml hown hts hlocks hnm hK hP hD hA hX hS hl
  have hl : lv_has ls 5 [(0, .ref mo), (1, .int (iI i)), (2, .int (iI s0)), (3, .int (iI pl))] := hl
  have hown : s.vm.findClass "MacroReckonerModel" = some m.cls := hown
  obtain ⟨H, hH⟩ : ∃ H : Heap, H = s.heap := ⟨_, rfl⟩
  obtain ⟨locs, hlo⟩ : ∃ L : List Loc, L = [] := ⟨_, rfl⟩
  have hP : va_P (dC, dI) vwCl (wMo dA mo ft lf hg kk tx pn tk fm tO tl mI mT mS mC mL mB mF mU mX mP mK mD mZ []) H := hH ▸ hP
  have hS : va_S A s.heap H locs := by rw [hH, hlo]; exact hS
  suffices hgo : W p l e rmMo_make s m [.ref mo, .int (iI i), .int (iI s0), .int (iI pl)].toArray below meth c H locs 0 0 (MQ below (qMo_make dC dI dA mo ft lf hg kk tx pn tk fm tO tl mI mT mS mC mL mB mF mU mX mP mK mD mZ i s0 pl N Z0 A) [.ref mo, .int (iI i), .int (iI s0), .int (iI pl)].toArray s 0 0 A) (F0 m 0 ls []) by rw [hH, hlo] at hgo; exact hgo
  clear hH hlo
  have hz := hM.1.1
  refine lv_aload_n hx hb dMo_make_0 rfl (lv_at hl 0 rfl) ?_
  refine va_get (D := (dC, dI)) (ci := 7) (v := .ref (mo + 13)) (C := "MacroReckonerModel") (T := TMo) (N := 23) hx hb hts inMo hown hK hP 0 rfl rfl 22 (by decide) (hts _ wt4_80) (fun _ h9 => h9) rfl dMo_make_1 ?_
  refine lv_iload_n hx hb dMo_make_4 rfl (lv_at hl 1 rfl) ?_
  refine iv_iald hx hb hK hP 13 0 rfl rfl (by decide) dMo_make_5 (by omega) (by omega) ?_
  refine lv_bipush (v := iI 60) hx hb dMo_make_6 (by decide) ?_
  refine iv_icmp_gt (tgt := 17) hx hb dMo_make_8 (by decide) ⟨by omega, by omega⟩ ⟨by decide, by decide⟩ (fun hc8 => ?_) (fun hc8 => ?_)
  · refine lv_bipush (v := iI (-7)) hx hb dMo_make_17 (by decide) ?_
    exact rt_i hx hb hr hlocks hK hS dMo_make_19 (mT, mS, mC, mL, mB) hP hD (show mres (-7) Z0 pl mT mS mC mL mB ∧ thO mT mS mC mL mB mT mS mC mL mB 46 from by exact ⟨by rw [← hZ]; exact make_7 hM (by omega), thO_r⟩)
  · refine lv_iload_n hx hb dMo_make_11 rfl (lv_at hl 3 rfl) ?_
    refine lv_bipush (v := iI 40) hx hb dMo_make_12 (by decide) ?_
    refine iv_icmp_le (tgt := 20) hx hb dMo_make_14 (by decide) ⟨by omega, by omega⟩ ⟨by decide, by decide⟩ (fun hc14 => ?_) (fun hc14 => ?_)
    · refine lv_aload_n hx hb dMo_make_20 rfl (lv_at hl 0 rfl) ?_
      refine va_get (D := (dC, dI)) (ci := 7) (v := .ref (mo + 2)) (C := "MacroReckonerModel") (T := TMo) (N := 23) hx hb hts inMo hown hK hP 0 rfl rfl 3 (by decide) (hts _ wt4_61) (fun _ h9 => h9) rfl dMo_make_21 ?_
      refine lv_bipush (v := iI 46) hx hb dMo_make_24 (by decide) ?_
      refine lv_iconst (v := iI 0) hx hb dMo_make_26 rfl ?_
      refine iv_zast (v := 0) hx hb hK hP hD hS 2 2 rfl rfl (by decide) dMo_make_27 (by omega) (by omega) (by omega) (fun H locs hP hD hS => ?_)
      have hP : va_P (dC, dI) vwCl (wMo dA mo ft lf hg kk tx pn tk fm tO tl mI (up mT 46 0) mS mC mL mB mF mU mX mP mK mD mZ []) H := hP
      have hD : va_D A (wMo dA mo ft lf hg kk tx pn tk fm tO tl mI (up mT 46 0) mS mC mL mB mF mU mX mP mK mD mZ []) := hD
      refine lv_aload_n hx hb dMo_make_28 rfl (lv_at hl 0 rfl) ?_
      refine va_get (D := (dC, dI)) (ci := 7) (v := .ref (mo + 3)) (C := "MacroReckonerModel") (T := TMo) (N := 23) hx hb hts inMo hown hK hP 0 rfl rfl 4 (by decide) (hts _ wt4_62) (fun _ h9 => h9) rfl dMo_make_29 ?_
      refine lv_bipush (v := iI 46) hx hb dMo_make_32 (by decide) ?_
      refine lv_aload_n hx hb dMo_make_34 rfl (lv_at hl 0 rfl) ?_
      refine va_get (D := (dC, dI)) (ci := 7) (v := .ref (mo + 13)) (C := "MacroReckonerModel") (T := TMo) (N := 23) hx hb hts inMo hown hK hP 0 rfl rfl 22 (by decide) (hts _ wt4_80) (fun _ h9 => h9) rfl dMo_make_35 ?_
      refine lv_iload_n hx hb dMo_make_38 rfl (lv_at hl 1 rfl) ?_
      refine iv_iald hx hb hK hP 13 0 rfl rfl (by decide) dMo_make_39 (by omega) (by omega) ?_
      have J48 : ∀ (sx : Int) (H : Heap) (locs : List Loc) (ls : Array Slot), ((mZ i = 0 ∧ sx = 0) ∨ (mZ i ≠ 0 ∧ sx = s0)) → va_P (dC, dI) vwCl (wMo dA mo ft lf hg kk tx pn tk fm tO tl mI (up mT 46 0) mS mC mL mB mF mU mX mP mK mD mZ []) H → va_D A (wMo dA mo ft lf hg kk tx pn tk fm tO tl mI (up mT 46 0) mS mC mL mB mF mU mX mP mK mD mZ []) → va_S A s.heap H locs → lv_has ls 5 [(0, .ref mo), (1, .int (iI i)), (2, .int (iI s0)), (3, .int (iI pl))] → W p l e rmMo_make s m [.ref mo, .int (iI i), .int (iI s0), .int (iI pl)].toArray below meth c H locs 0 0 (MQ below (qMo_make dC dI dA mo ft lf hg kk tx pn tk fm tO tl mI mT mS mC mL mB mF mU mX mP mK mD mZ i s0 pl N Z0 A) [.ref mo, .int (iI i), .int (iI s0), .int (iI pl)].toArray s 0 0 A) (F0 m 48 ls [.int (iI sx), .int (iI 46), .ref (mo + 3)]) := by
        intro sx H locs ls hsx hP hD hS hl
        refine iv_iast (v := sx) hx hb hK hP hD hS 3 0 rfl rfl (by decide) dMo_make_48 (by omega) (by omega) (fun H locs hP hD hS => ?_)
        have hP : va_P (dC, dI) vwCl (wMo dA mo ft lf hg kk tx pn tk fm tO tl mI (up mT 46 0) (up mS 46 sx) mC mL mB mF mU mX mP mK mD mZ []) H := hP
        have hD : va_D A (wMo dA mo ft lf hg kk tx pn tk fm tO tl mI (up mT 46 0) (up mS 46 sx) mC mL mB mF mU mX mP mK mD mZ []) := hD
        refine lv_aload_n hx hb dMo_make_49 rfl (lv_at hl 0 rfl) ?_
        refine va_get (D := (dC, dI)) (ci := 7) (v := .ref (mo + 4)) (C := "MacroReckonerModel") (T := TMo) (N := 23) hx hb hts inMo hown hK hP 0 rfl rfl 5 (by decide) (hts _ wt4_63) (fun _ h9 => h9) rfl dMo_make_50 ?_
        refine lv_bipush (v := iI 46) hx hb dMo_make_53 (by decide) ?_
        refine lv_iload_n hx hb dMo_make_55 rfl (lv_at hl 3 rfl) ?_
        refine iv_iast (v := pl) hx hb hK hP hD hS 4 0 rfl rfl (by decide) dMo_make_56 (by omega) (by omega) (fun H locs hP hD hS => ?_)
        have hP : va_P (dC, dI) vwCl (wMo dA mo ft lf hg kk tx pn tk fm tO tl mI (up mT 46 0) (up mS 46 sx) (up mC 46 pl) mL mB mF mU mX mP mK mD mZ []) H := hP
        have hD : va_D A (wMo dA mo ft lf hg kk tx pn tk fm tO tl mI (up mT 46 0) (up mS 46 sx) (up mC 46 pl) mL mB mF mU mX mP mK mD mZ []) := hD
        refine lv_aload_n hx hb dMo_make_57 rfl (lv_at hl 0 rfl) ?_
        refine va_get (D := (dC, dI)) (ci := 7) (v := .ref (mo + 5)) (C := "MacroReckonerModel") (T := TMo) (N := 23) hx hb hts inMo hown hK hP 0 rfl rfl 6 (by decide) (hts _ wt4_64) (fun _ h9 => h9) rfl dMo_make_58 ?_
        refine lv_bipush (v := iI 46) hx hb dMo_make_61 (by decide) ?_
        refine lv_aload_n hx hb dMo_make_63 rfl (lv_at hl 0 rfl) ?_
        refine va_get (D := (dC, dI)) (ci := 7) (v := .ref (mo + 13)) (C := "MacroReckonerModel") (T := TMo) (N := 23) hx hb hts inMo hown hK hP 0 rfl rfl 22 (by decide) (hts _ wt4_80) (fun _ h9 => h9) rfl dMo_make_64 ?_
        refine lv_iload_n hx hb dMo_make_67 rfl (lv_at hl 1 rfl) ?_
        refine iv_iald hx hb hK hP 13 0 rfl rfl (by decide) dMo_make_68 (by omega) (by omega) ?_
        refine iv_iast (v := mZ i) hx hb hK hP hD hS 5 0 rfl rfl (by decide) dMo_make_69 (by omega) (by omega) (fun H locs hP hD hS => ?_)
        have hP : va_P (dC, dI) vwCl (wMo dA mo ft lf hg kk tx pn tk fm tO tl mI (up mT 46 0) (up mS 46 sx) (up mC 46 pl) (up mL 46 (mZ i)) mB mF mU mX mP mK mD mZ []) H := hP
        have hD : va_D A (wMo dA mo ft lf hg kk tx pn tk fm tO tl mI (up mT 46 0) (up mS 46 sx) (up mC 46 pl) (up mL 46 (mZ i)) mB mF mU mX mP mK mD mZ []) := hD
        refine lv_iconst (v := iI 0) hx hb dMo_make_70 rfl ?_
        refine lv_istore (lv' := [(4, .int (iI 0)), (0, .ref mo), (1, .int (iI i)), (2, .int (iI s0)), (3, .int (iI pl))]) hx hb dMo_make_71 hl (by decide) rfl (fun ls hl => ?_)
        have L73 : ∀ (n : Nat) (B9 : Int → Int) (j : Int) (H : Heap) (locs : List Loc) (ls : Array Slot), (0 ≤ j ∧ j ≤ mZ i) → (∀ t, 0 ≤ t → t < j → B9 (2760 + t) = mD (340 * i + t)) → (∀ p, p < 2760 ∨ 2820 ≤ p → B9 p = mB p) → (mZ i - j).toNat < n → va_P (dC, dI) vwCl (wMo dA mo ft lf hg kk tx pn tk fm tO tl mI (up mT 46 0) (up mS 46 sx) (up mC 46 pl) (up mL 46 (mZ i)) B9 mF mU mX mP mK mD mZ []) H → va_D A (wMo dA mo ft lf hg kk tx pn tk fm tO tl mI (up mT 46 0) (up mS 46 sx) (up mC 46 pl) (up mL 46 (mZ i)) B9 mF mU mX mP mK mD mZ []) → va_S A s.heap H locs → lv_has ls 5 [(4, .int (iI j)), (0, .ref mo), (1, .int (iI i)), (2, .int (iI s0)), (3, .int (iI pl))] → W p l e rmMo_make s m [.ref mo, .int (iI i), .int (iI s0), .int (iI pl)].toArray below meth c H locs 0 0 (MQ below (qMo_make dC dI dA mo ft lf hg kk tx pn tk fm tO tl mI mT mS mC mL mB mF mU mX mP mK mD mZ i s0 pl N Z0 A) [.ref mo, .int (iI i), .int (iI s0), .int (iI pl)].toArray s 0 0 A) (F0 m 73 ls []) := by
          intro n
          induction n with
          | zero => intro B9 j H locs ls hj h0 ho hn; omega
          | succ n ih =>
            intro B9 j H locs ls hj h0 ho hn hP hD hS hl
            have ih73 := ih
            refine lv_iload hx hb dMo_make_73 (lv_at hl 0 rfl) ?_
            refine lv_aload_n hx hb dMo_make_75 rfl (lv_at hl 1 rfl) ?_
            refine va_get (D := (dC, dI)) (ci := 7) (v := .ref (mo + 13)) (C := "MacroReckonerModel") (T := TMo) (N := 23) hx hb hts inMo hown hK hP 0 rfl rfl 22 (by decide) (hts _ wt4_80) (fun _ h9 => h9) rfl dMo_make_76 ?_
            refine lv_iload_n hx hb dMo_make_79 rfl (lv_at hl 2 rfl) ?_
            refine iv_iald hx hb hK hP 13 0 rfl rfl (by decide) dMo_make_80 (by omega) (by omega) ?_
            refine iv_icmp_ge (tgt := 114) hx hb dMo_make_81 (by decide) ⟨by omega, by omega⟩ ⟨by omega, by omega⟩ (fun hc81 => ?_) (fun hc81 => ?_)
            · refine lv_iconst (v := iI 0) hx hb dMo_make_114 rfl ?_
              exact rt_i hx hb hr hlocks hK hS dMo_make_115 (up mT 46 0, up mS 46 sx, up mC 46 pl, up mL 46 (mZ i), B9) hP hD (show mres 0 Z0 pl (up mT 46 0) (up mS 46 sx) (up mC 46 pl) (up mL 46 (mZ i)) B9 ∧ thO mT mS mC mL mB (up mT 46 0) (up mS 46 sx) (up mC 46 pl) (up mL 46 (mZ i)) B9 46 from by exact ⟨by rw [← hZ]; exact make_e hM (by omega) (by omega) hs up_s (by rw [up_s]; exact hsx) up_s up_s (fun t x y => h0 t x (by omega)), ⟨fun t x => ⟨up_n x, up_n x, up_n x, up_n x⟩, fun p x => ho p (by omega)⟩⟩)
            · have hdj := hM.1.2.1 j (by omega) (by omega)
              refine lv_aload_n hx hb dMo_make_84 rfl (lv_at hl 1 rfl) ?_
              refine va_get (D := (dC, dI)) (ci := 7) (v := .ref (mo + 6)) (C := "MacroReckonerModel") (T := TMo) (N := 23) hx hb hts inMo hown hK hP 0 rfl rfl 7 (by decide) (hts _ wt4_65) (fun _ h9 => h9) rfl dMo_make_85 ?_
              refine lv_sipush (v := iI 2760) hx hb dMo_make_88 (by decide) ?_
              refine lv_iload hx hb dMo_make_91 (lv_at hl 0 rfl) ?_
              refine iv_iadd hx hb dMo_make_93 ?_
              refine lv_aload_n hx hb dMo_make_94 rfl (lv_at hl 1 rfl) ?_
              refine va_get (D := (dC, dI)) (ci := 7) (v := .ref (mo + 12)) (C := "MacroReckonerModel") (T := TMo) (N := 23) hx hb hts inMo hown hK hP 0 rfl rfl 21 (by decide) (hts _ wt4_79) (fun _ h9 => h9) rfl dMo_make_95 ?_
              refine lv_sipush (v := iI 340) hx hb dMo_make_98 (by decide) ?_
              refine lv_iload_n hx hb dMo_make_101 rfl (lv_at hl 2 rfl) ?_
              refine iv_imul hx hb dMo_make_102 ?_
              refine lv_iload hx hb dMo_make_103 (lv_at hl 0 rfl) ?_
              refine iv_iadd hx hb dMo_make_105 ?_
              refine iv_iald hx hb hK hP 12 0 rfl rfl (by decide) dMo_make_106 (by omega) (by omega) ?_
              refine iv_iast (v := mD ((340 * i) + j)) hx hb hK hP hD hS 6 0 rfl rfl (by decide) dMo_make_107 (by omega) (by omega) (fun H locs hP hD hS => ?_)
              have hP : va_P (dC, dI) vwCl (wMo dA mo ft lf hg kk tx pn tk fm tO tl mI (up mT 46 0) (up mS 46 sx) (up mC 46 pl) (up mL 46 (mZ i)) (up B9 (2760 + j) (mD ((340 * i) + j))) mF mU mX mP mK mD mZ []) H := hP
              have hD : va_D A (wMo dA mo ft lf hg kk tx pn tk fm tO tl mI (up mT 46 0) (up mS 46 sx) (up mC 46 pl) (up mL 46 (mZ i)) (up B9 (2760 + j) (mD ((340 * i) + j))) mF mU mX mP mK mD mZ []) := hD
              refine lv_iinc (k := 0) (lv' := [(4, .int (iI (j + 1))), (0, .ref mo), (1, .int (iI i)), (2, .int (iI s0)), (3, .int (iI pl))]) (v := iI (j + 1)) hx hb dMo_make_108 hl rfl (iI_add _ _).symm (by decide) rfl (fun ls hl => ?_)
              refine lv_goto (tgt := 73) hx hb dMo_make_111 (by decide) ?_
              exact ih73 (up B9 (2760 + j) (mD ((340 * i) + j))) (j + 1) H locs ls (by omega) (by intro t x y; by_cases z : t = j; rw [z, up_s]; rw [up_n (by omega)]; exact h0 t x (by omega)) (by intro p x; rw [up_n (by omega)]; exact ho p x) (by omega) hP hD hS (lv_sub hl [0, 1, 2, 3, 4] rfl)
        exact L73 _ mB 0 H locs ls (by omega) (by intro t x y; omega) (by intro p _; rfl) (Nat.lt_succ_self _) hP hD hS (lv_sub hl [0, 1, 2, 3, 4] rfl)
      refine iv_if_ne (tgt := 47) hx hb dMo_make_40 (by decide) ⟨by omega, by omega⟩ (fun hc40 => ?_) (fun hc40 => ?_)
      · refine lv_iload_n hx hb dMo_make_47 rfl (lv_at hl 2 rfl) ?_
        exact J48 s0 H locs ls (by omega) hP hD hS (lv_sub hl [0, 1, 2, 3] rfl)
      · refine lv_iconst (v := iI 0) hx hb dMo_make_43 rfl ?_
        refine lv_goto (tgt := 48) hx hb dMo_make_44 (by decide) ?_
        exact J48 0 H locs ls (by omega) hP hD hS (lv_sub hl [0, 1, 2, 3] rfl)
    · refine lv_bipush (v := iI (-7)) hx hb dMo_make_17 (by decide) ?_
      exact rt_i hx hb hr hlocks hK hS dMo_make_19 (mT, mS, mC, mL, mB) hP hD (show mres (-7) Z0 pl mT mS mC mL mB ∧ thO mT mS mC mL mB mT mS mC mL mB 46 from by exact ⟨by rw [← hZ]; exact make_7 hM (by omega), thO_r⟩)

theorem dMo_makeSmall_0 : decode prog_9_method_17_code 0 = .ok (.aload_n 0, 1) := by decide +kernel
theorem dMo_makeSmall_1 : decode prog_9_method_17_code 1 = .ok (.getfield 47, 3) := by decide +kernel
theorem dMo_makeSmall_4 : decode prog_9_method_17_code 4 = .ok (.iconst 0, 1) := by decide +kernel
theorem dMo_makeSmall_5 : decode prog_9_method_17_code 5 = .ok (.iconst 0, 1) := by decide +kernel
theorem dMo_makeSmall_6 : decode prog_9_method_17_code 6 = .ok (.iastore, 1) := by decide +kernel
theorem dMo_makeSmall_7 : decode prog_9_method_17_code 7 = .ok (.bipush 100, 2) := by decide +kernel
theorem dMo_makeSmall_9 : decode prog_9_method_17_code 9 = .ok (.istore_n 2, 1) := by decide +kernel
theorem dMo_makeSmall_10 : decode prog_9_method_17_code 10 = .ok (.iload_n 2, 1) := by decide +kernel
theorem dMo_makeSmall_11 : decode prog_9_method_17_code 11 = .ok (.ifCond .le 23, 3) := by decide +kernel
theorem dMo_makeSmall_14 : decode prog_9_method_17_code 14 = .ok (.aload_n 0, 1) := by decide +kernel
theorem dMo_makeSmall_15 : decode prog_9_method_17_code 15 = .ok (.iconst 0, 1) := by decide +kernel
theorem dMo_makeSmall_16 : decode prog_9_method_17_code 16 = .ok (.iconst (-1), 1) := by decide +kernel
theorem dMo_makeSmall_17 : decode prog_9_method_17_code 17 = .ok (.iload_n 1, 1) := by decide +kernel
theorem dMo_makeSmall_18 : decode prog_9_method_17_code 18 = .ok (.iload_n 2, 1) := by decide +kernel
theorem dMo_makeSmall_19 : decode prog_9_method_17_code 19 = .ok (.idiv, 1) := by decide +kernel
theorem dMo_makeSmall_20 : decode prog_9_method_17_code 20 = .ok (.bipush 10, 2) := by decide +kernel
theorem dMo_makeSmall_22 : decode prog_9_method_17_code 22 = .ok (.irem, 1) := by decide +kernel
theorem dMo_makeSmall_23 : decode prog_9_method_17_code 23 = .ok (.invokevirtual 58, 3) := by decide +kernel
theorem dMo_makeSmall_26 : decode prog_9_method_17_code 26 = .ok (.iload_n 2, 1) := by decide +kernel
theorem dMo_makeSmall_27 : decode prog_9_method_17_code 27 = .ok (.bipush 10, 2) := by decide +kernel
theorem dMo_makeSmall_29 : decode prog_9_method_17_code 29 = .ok (.idiv, 1) := by decide +kernel
theorem dMo_makeSmall_30 : decode prog_9_method_17_code 30 = .ok (.istore_n 2, 1) := by decide +kernel
theorem dMo_makeSmall_31 : decode prog_9_method_17_code 31 = .ok (.goto (-21), 3) := by decide +kernel
theorem dMo_makeSmall_34 : decode prog_9_method_17_code 34 = .ok (.aload_n 0, 1) := by decide +kernel
theorem dMo_makeSmall_35 : decode prog_9_method_17_code 35 = .ok (.iconst 0, 1) := by decide +kernel
theorem dMo_makeSmall_36 : decode prog_9_method_17_code 36 = .ok (.iconst 1, 1) := by decide +kernel
theorem dMo_makeSmall_37 : decode prog_9_method_17_code 37 = .ok (.iconst 0, 1) := by decide +kernel
theorem dMo_makeSmall_38 : decode prog_9_method_17_code 38 = .ok (.invokevirtual 79, 3) := by decide +kernel
theorem dMo_makeSmall_41 : decode prog_9_method_17_code 41 = .ok (.ireturn, 1) := by decide +kernel
abbrev qMo_makeSmall (dC : Nat → ClassId) (dI : Nat → Nat → Nat) (dA : Nat → ClassId) (mo : Nat) (ft : Int) (lf : Int) (hg : Int) (kk : Int) (tx : Int) (pn : Int) (tk : Int) (fm : Int) (tO : Int) (tl : Int) (mI : Int → Int) (mT : Int → Int) (mS : Int → Int) (mC : Int → Int) (mL : Int → Int) (mB : Int → Int) (mF : Int → Int) (mU : Int → Int) (mX : Int → Int) (mP : Int → Int) (mK : Int → Int) (mD : Int → Int) (mZ : Int → Int) (v0 : Int) (A : Nat → Prop) : Array Value → State → Outcome → State → Prop := QI (dC, dI) vwCl (tyA dA) (fun (r : Int) (v_ : (Int → Int) × (Int → Int) × (Int → Int) × (Int → Int) × (Int → Int) × (Int → Int) × (Int → Int)) => r = 0 ∧ MT v_.1 v_.2.1 v_.2.2.1 v_.2.2.2.1 v_.2.2.2.2.1 46 (mkN v0 0) ∧ thO mT mS mC mL mB v_.1 v_.2.1 v_.2.2.1 v_.2.2.2.1 v_.2.2.2.2.1 46) (fun (v_ : (Int → Int) × (Int → Int) × (Int → Int) × (Int → Int) × (Int → Int) × (Int → Int) × (Int → Int)) => wMo dA mo ft lf hg kk tx pn tk fm tO tl mI v_.1 v_.2.1 v_.2.2.1 v_.2.2.2.1 v_.2.2.2.2.1 mF mU mX mP mK v_.2.2.2.2.2.1 v_.2.2.2.2.2.2 []) A
abbrev rmMo_makeSmall : Room := { frames := 2, cells := 0, slots := 0, locals := 46 }
set_option maxRecDepth 100000 in
set_option maxHeartbeats 1000000 in
theorem cMo_makeSmall (l : Launch) (dC : Nat → ClassId) (dI : Nat → Nat → Nat) (dA : Nat → ClassId) (mo : Nat) (ft : Int) (lf : Int) (hg : Int) (kk : Int) (tx : Int) (pn : Int) (tk : Int) (fm : Int) (tO : Int) (tl : Int) (mI : Int → Int) (mT : Int → Int) (mS : Int → Int) (mC : Int → Int) (mL : Int → Int) (mB : Int → Int) (mF : Int → Int) (mU : Int → Int) (mX : Int → Int) (mP : Int → Int) (mK : Int → Int) (mD : Int → Int) (mZ : Int → Int) (v0 : Int) (hv : 0 ≤ v0 ∧ v0 ≤ 999) (sz : Nat) : Met l yMo_makeSmall wsMo_makeSmall rmMo_makeSmall (PC (dC, dI) vwCl (tyA dA) XN [.ref mo, .int (iI v0)] (wMo dA mo ft lf hg kk tx pn tk fm tO tl mI mT mS mC mL mB mF mU mX mP mK mD mZ []) sz) (qMo_makeSmall dC dI dA mo ft lf hg kk tx pn tk fm tO tl mI mT mS mC mL mB mF mU mX mP mK mD mZ v0 (va_A (wMo dA mo ft lf hg kk tx pn tk fm tO tl mI mT mS mC mL mB mF mU mX mP mK mD mZ []) sz)) 0 0 (va_A (wMo dA mo ft lf hg kk tx pn tk fm tO tl mI mT mS mC mL mB mF mU mX mP mK mD mZ []) sz) := by
  refine met_of (cc := prog_9_method_17_code) (maxL := 3) (ret := (some .int)) (Qc := qMo_makeSmall dC dI dA mo ft lf hg kk tx pn tk fm tO tl mI mT mS mC mL mB mF mU mX mP mK mD mZ v0) XN_ok (by decide) rfl (Nat.le_of_ble_eq_true rfl) ?_
  intro p e s m below meth c ls A hx hb hr hml hown hts hlocks hnm hK hP hD hA hX hS hl
  have hl : lv_has ls 3 [(0, .ref mo), (1, .int (iI v0))] := hl
  have hown : s.vm.findClass "MacroReckonerModel" = some m.cls := hown
  obtain ⟨H, hH⟩ : ∃ H : Heap, H = s.heap := ⟨_, rfl⟩
  obtain ⟨locs, hlo⟩ : ∃ L : List Loc, L = [] := ⟨_, rfl⟩
  have hP : va_P (dC, dI) vwCl (wMo dA mo ft lf hg kk tx pn tk fm tO tl mI mT mS mC mL mB mF mU mX mP mK mD mZ []) H := hH ▸ hP
  have hS : va_S A s.heap H locs := by rw [hH, hlo]; exact hS
  suffices hgo : W p l e rmMo_makeSmall s m [.ref mo, .int (iI v0)].toArray below meth c H locs 0 0 (MQ below (qMo_makeSmall dC dI dA mo ft lf hg kk tx pn tk fm tO tl mI mT mS mC mL mB mF mU mX mP mK mD mZ v0 A) [.ref mo, .int (iI v0)].toArray s 0 0 A) (F0 m 0 ls []) by rw [hH, hlo] at hgo; exact hgo
  clear hH hlo
  refine lv_aload_n hx hb dMo_makeSmall_0 rfl (lv_at hl 0 rfl) ?_
  refine va_get (D := (dC, dI)) (ci := 7) (v := .ref (mo + 13)) (C := "MacroReckonerModel") (T := TMo) (N := 23) hx hb hts inMo hown hK hP 0 rfl rfl 22 (by decide) (hts _ wt4_80) (fun _ h9 => h9) rfl dMo_makeSmall_1 ?_
  refine lv_iconst (v := iI 0) hx hb dMo_makeSmall_4 rfl ?_
  refine lv_iconst (v := iI 0) hx hb dMo_makeSmall_5 rfl ?_
  refine iv_iast (v := 0) hx hb hK hP hD hS 13 0 rfl rfl (by decide) dMo_makeSmall_6 (by omega) (by omega) (fun H locs hP hD hS => ?_)
  have hP : va_P (dC, dI) vwCl (wMo dA mo ft lf hg kk tx pn tk fm tO tl mI mT mS mC mL mB mF mU mX mP mK mD (up mZ 0 0) []) H := hP
  have hD : va_D A (wMo dA mo ft lf hg kk tx pn tk fm tO tl mI mT mS mC mL mB mF mU mX mP mK mD (up mZ 0 0) []) := hD
  have hJ0 : MR mD (up mZ 0 0) 0 0 := MR_0
  refine lv_bipush (v := iI 100) hx hb dMo_makeSmall_7 (by decide) ?_
  refine lv_istore_n (lv' := [(2, .int (iI 100)), (0, .ref mo), (1, .int (iI v0))]) hx hb dMo_makeSmall_9 rfl hl (by decide) rfl (fun ls hl => ?_)
  have L10 : ∀ (n : Nat) (D9 : Int → Int) (Z9 : Int → Int) (un : Int) (ac : Int) (H : Heap) (locs : List Loc) (ls : Array Slot), ((un = 100 ∧ ac = 0) ∨ (un = 10 ∧ ac = v0 / 100) ∨ (un = 1 ∧ ac = v0 / 10) ∨ (un = 0 ∧ ac = v0)) → (MR D9 Z9 0 ac) → (Z9 0 ≤ 10) → (un).toNat < n → va_P (dC, dI) vwCl (wMo dA mo ft lf hg kk tx pn tk fm tO tl mI mT mS mC mL mB mF mU mX mP mK D9 Z9 []) H → va_D A (wMo dA mo ft lf hg kk tx pn tk fm tO tl mI mT mS mC mL mB mF mU mX mP mK D9 Z9 []) → va_S A s.heap H locs → lv_has ls 3 [(2, .int (iI un)), (0, .ref mo), (1, .int (iI v0))] → W p l e rmMo_makeSmall s m [.ref mo, .int (iI v0)].toArray below meth c H locs 0 0 (MQ below (qMo_makeSmall dC dI dA mo ft lf hg kk tx pn tk fm tO tl mI mT mS mC mL mB mF mU mX mP mK mD mZ v0 A) [.ref mo, .int (iI v0)].toArray s 0 0 A) (F0 m 10 ls []) := by
    intro n
    induction n with
    | zero => intro D9 Z9 un ac H locs ls hU hJ hzz hn; omega
    | succ n ih =>
      intro D9 Z9 un ac H locs ls hU hJ hzz hn hP hD hS hl
      have ih10 := ih
      refine lv_iload_n hx hb dMo_makeSmall_10 rfl (lv_at hl 0 rfl) ?_
      refine iv_if_le (tgt := 34) hx hb dMo_makeSmall_11 (by decide) ⟨by omega, by omega⟩ (fun hc11 => ?_) (fun hc11 => ?_)
      · refine lv_aload_n hx hb dMo_makeSmall_34 rfl (lv_at hl 1 rfl) ?_
        refine lv_iconst (v := iI 0) hx hb dMo_makeSmall_35 rfl ?_
        refine lv_iconst (v := iI 1) hx hb dMo_makeSmall_36 rfl ?_
        refine lv_iconst (v := iI 0) hx hb dMo_makeSmall_37 rfl ?_
        refine cv_i (va_runV (C := "MacroReckonerModel") (As := [.int (iI 0), .int (iI 1), .int (iI 0)]) (rest := []) ⟨hx, hb, hml, hown, hts⟩ (cMo_make l dC dI dA mo ft lf hg kk tx pn tk fm tO tl mI mT mS mC mL mB mF mU mX mP mK D9 Z9 0 1 0 v0 v0 (by omega) (by have e : ac = v0 := (by omega); rw [← e]; exact hJ) (by omega) (by omega) (by exact sm_0 (by decide)) H.size) (cwV 3 hts (gdV wt4_195 wt4_197 ws4_3 wt1_8 wt4_198) rfl rfl rfl ⟨rfl, by decide, by decide, by decide +kernel⟩ ⟨by decide, by decide⟩) (preV (q := ("MacroReckonerModel", TMo, 23)) hK hP hD hS hA XN_ok trivial [0, 1, 2, 3, 4, 5, 6, 7, 8, 9, 10, 11, 12, 13] rfl rfl 0 rfl rfl) rfl rfl hl.1 rfl (lv_room (Nat.le_of_ble_eq_true rfl)) dMo_makeSmall_38 ⟨Nat.zero_le _, Nat.zero_le _⟩) hP hD hS hA [0, 1, 2, 3, 4, 5, 6, 7, 8, 9, 10, 11, 12, 13] [] rfl (fun v_ => wMo dA mo ft lf hg kk tx pn tk fm tO tl mI v_.1 v_.2.1 v_.2.2.1 v_.2.2.2.1 v_.2.2.2.2 mF mU mX mP mK D9 Z9 []) (fun _ => rfl) ([] : va_W) rfl (fun _ => rfl) [mo, mo + 1, mo + 2, mo + 3, mo + 4, mo + 5, mo + 6, mo + 7, mo + 8, mo + 9, mo + 10, mo + 11, mo + 12, mo + 13] rfl (fun _ => rfl) (fun _ => rfl) (fun r38 u_ H locs hq38 hP hD hS => ?_)
        obtain ⟨T1_38, S1_38, C1_38, L1_38, B1_38⟩ := u_
        have hP : va_P (dC, dI) vwCl (wMo dA mo ft lf hg kk tx pn tk fm tO tl mI T1_38 S1_38 C1_38 L1_38 B1_38 mF mU mX mP mK D9 Z9 []) H := hP
        have hD : va_D A (wMo dA mo ft lf hg kk tx pn tk fm tO tl mI T1_38 S1_38 C1_38 L1_38 B1_38 mF mU mX mP mK D9 Z9 []) := hD
        have hq38 : mres r38 v0 0 T1_38 S1_38 C1_38 L1_38 B1_38 ∧ thO mT mS mC mL mB T1_38 S1_38 C1_38 L1_38 B1_38 46 := hq38
        exact rt_i hx hb hr hlocks hK hS dMo_makeSmall_41 (T1_38, S1_38, C1_38, L1_38, B1_38, D9, Z9) hP hD (show r38 = 0 ∧ MT T1_38 S1_38 C1_38 L1_38 B1_38 46 (mkN v0 0) ∧ thO mT mS mC mL mB T1_38 S1_38 C1_38 L1_38 B1_38 46 from by obtain ⟨h1, h2⟩ := hq38; have hb9 : ab v0 < PW 10 60 := (by rw [ab_pos hv.1]; have := PW_mono (b := 10) (i := 3) (j := 60) (by decide) (by decide) (by decide); rw [show PW 10 3 = 1000 from rfl] at this; omega); rcases h1 with ⟨h1, h3⟩ | ⟨h1, h3, h4, h5⟩; omega; exact ⟨h1, h5, h2⟩)
      · have hdv : 0 ≤ v0 / un ∧ v0 / un ≤ 999 := ⟨Int.ediv_nonneg hv.1 (by omega), by have h := Int.ediv_le_self (a := v0) un hv.1; omega⟩
        refine lv_aload_n hx hb dMo_makeSmall_14 rfl (lv_at hl 1 rfl) ?_
        refine lv_iconst (v := iI 0) hx hb dMo_makeSmall_15 rfl ?_
        refine lv_iconst (v := iI (-1)) hx hb dMo_makeSmall_16 rfl ?_
        refine lv_iload_n hx hb dMo_makeSmall_17 rfl (lv_at hl 2 rfl) ?_
        refine lv_iload_n hx hb dMo_makeSmall_18 rfl (lv_at hl 0 rfl) ?_
        refine iv_idiv hx hb dMo_makeSmall_19 (by omega) ⟨by omega, by omega⟩ (by omega) ⟨by omega, by omega⟩ ?_
        refine lv_bipush (v := iI 10) hx hb dMo_makeSmall_20 (by decide) ?_
        refine iv_irem hx hb dMo_makeSmall_22 (by omega) ⟨by omega, by omega⟩ (by omega) ⟨by decide, by decide⟩ ?_
        refine cv_v (va_runV (C := "MacroReckonerModel") (As := [.int (iI 0), .int (iI (-1)), .int (iI ((v0 / un) % 10))]) (rest := []) ⟨hx, hb, hml, hown, hts⟩ (cMo_append l dC dI dA mo ft lf hg kk tx pn tk fm tO tl mI mT mS mC mL mB mF mU mX mP mK D9 Z9 0 (-1) ((v0 / un) % 10) ac (by omega) (by omega) (by exact hJ) H.size) (cwV 3 hts (gdV wt4_187 wt4_189 ws4_1 wt1_8 wt4_190) rfl rfl rfl ⟨rfl, by decide, by decide, by decide +kernel⟩ ⟨by decide, by decide⟩) (preV (q := ("MacroReckonerModel", TMo, 23)) hK hP hD hS hA XN_ok trivial [0, 1, 2, 3, 4, 5, 6, 7, 8, 9, 10, 11, 12, 13] rfl rfl 0 rfl rfl) rfl rfl hl.1 rfl (lv_room (Nat.le_of_ble_eq_true rfl)) dMo_makeSmall_23 ⟨Nat.zero_le _, Nat.zero_le _⟩) hP hD hS hA [0, 1, 2, 3, 4, 5, 6, 7, 8, 9, 10, 11, 12, 13] [] rfl (fun v_ => wMo dA mo ft lf hg kk tx pn tk fm tO tl mI mT mS mC mL mB mF mU mX mP mK v_.1 v_.2 []) (fun _ => rfl) ([] : va_W) rfl (fun _ => rfl) [mo, mo + 1, mo + 2, mo + 3, mo + 4, mo + 5, mo + 6, mo + 7, mo + 8, mo + 9, mo + 10, mo + 11, mo + 12, mo + 13] rfl (fun _ => rfl) (fun _ => rfl) (fun u_ H locs hq23 hP hD hS => ?_)
        obtain ⟨D1_23, Z1_23⟩ := u_
        have hP : va_P (dC, dI) vwCl (wMo dA mo ft lf hg kk tx pn tk fm tO tl mI mT mS mC mL mB mF mU mX mP mK D1_23 Z1_23 []) H := hP
        have hD : va_D A (wMo dA mo ft lf hg kk tx pn tk fm tO tl mI mT mS mC mL mB mF mU mX mP mK D1_23 Z1_23 []) := hD
        have hq23 : (((-1) < 0 ∧ MR D1_23 Z1_23 0 (ac * 10 + ((v0 / un) % 10))) ∨ (0 ≤ (-1) ∧ MR D1_23 Z1_23 0 (ac * PW 10 (-1)))) ∧ others D9 Z9 D1_23 Z1_23 0 := hq23
        refine lv_iload_n hx hb dMo_makeSmall_26 rfl (lv_at hl 0 rfl) ?_
        refine lv_bipush (v := iI 10) hx hb dMo_makeSmall_27 (by decide) ?_
        refine iv_idiv hx hb dMo_makeSmall_29 (by omega) ⟨by omega, by omega⟩ (by omega) ⟨by decide, by decide⟩ ?_
        refine lv_istore_n (lv' := [(2, .int (iI (un / 10))), (0, .ref mo), (1, .int (iI v0))]) hx hb dMo_makeSmall_30 rfl hl (by decide) rfl (fun ls hl => ?_)
        refine lv_goto (tgt := 10) hx hb dMo_makeSmall_31 (by decide) ?_
        exact ih10 D1_23 Z1_23 (un / 10) (ac * 10 + v0 / un % 10) H locs ls (by rcases hU with ⟨h1, h2⟩ | ⟨h1, h2⟩ | ⟨h1, h2⟩ | ⟨h1, h2⟩ <;> (subst h1; subst h2; omega)) (by exact (hq23.1.resolve_right (fun z => by omega)).2) (by exact M_sz (hq23.1.resolve_right (fun z => by omega)).2 (by rw [show PW 10 10 = 10000000000 from rfl]; rcases hU with ⟨h1, h2⟩ | ⟨h1, h2⟩ | ⟨h1, h2⟩ | ⟨h1, h2⟩ <;> (subst h1; subst h2; omega)) (by decide)) (by omega) hP hD hS (lv_sub hl [0, 1, 2] rfl)
  exact L10 _ mD (up mZ 0 0) 100 0 H locs ls (by omega) (by exact MR_0) (by exact M_sz hJ0 (PW_pos (by decide) _) (by decide)) (Nat.lt_succ_self _) hP hD hS (lv_sub hl [0, 1, 2] rfl)

theorem dMo_put_0 : decode prog_9_method_18_code 0 = .ok (.aload_n 0, 1) := by decide +kernel
theorem dMo_put_1 : decode prog_9_method_18_code 1 = .ok (.getfield 83, 3) := by decide +kernel
theorem dMo_put_4 : decode prog_9_method_18_code 4 = .ok (.iload_n 1, 1) := by decide +kernel
theorem dMo_put_5 : decode prog_9_method_18_code 5 = .ok (.isub, 1) := by decide +kernel
theorem dMo_put_6 : decode prog_9_method_18_code 6 = .ok (.bipush 20, 2) := by decide +kernel
theorem dMo_put_8 : decode prog_9_method_18_code 8 = .ok (.if_icmp .ne 6, 3) := by decide +kernel
theorem dMo_put_11 : decode prog_9_method_18_code 11 = .ok (.bipush (-8), 2) := by decide +kernel
theorem dMo_put_13 : decode prog_9_method_18_code 13 = .ok (.ireturn, 1) := by decide +kernel
theorem dMo_put_14 : decode prog_9_method_18_code 14 = .ok (.aload_n 0, 1) := by decide +kernel
theorem dMo_put_15 : decode prog_9_method_18_code 15 = .ok (.aload_n 0, 1) := by decide +kernel
theorem dMo_put_16 : decode prog_9_method_18_code 16 = .ok (.getfield 83, 3) := by decide +kernel
theorem dMo_put_19 : decode prog_9_method_18_code 19 = .ok (.iload_n 1, 1) := by decide +kernel
theorem dMo_put_20 : decode prog_9_method_18_code 20 = .ok (.isub, 1) := by decide +kernel
theorem dMo_put_21 : decode prog_9_method_18_code 21 = .ok (.iconst 1, 1) := by decide +kernel
theorem dMo_put_22 : decode prog_9_method_18_code 22 = .ok (.iadd, 1) := by decide +kernel
theorem dMo_put_23 : decode prog_9_method_18_code 23 = .ok (.putfield 83, 3) := by decide +kernel
theorem dMo_put_26 : decode prog_9_method_18_code 26 = .ok (.aload_n 0, 1) := by decide +kernel
theorem dMo_put_27 : decode prog_9_method_18_code 27 = .ok (.bipush 25, 2) := by decide +kernel
theorem dMo_put_29 : decode prog_9_method_18_code 29 = .ok (.aload_n 0, 1) := by decide +kernel
theorem dMo_put_30 : decode prog_9_method_18_code 30 = .ok (.getfield 83, 3) := by decide +kernel
theorem dMo_put_33 : decode prog_9_method_18_code 33 = .ok (.iadd, 1) := by decide +kernel
theorem dMo_put_34 : decode prog_9_method_18_code 34 = .ok (.bipush 46, 2) := by decide +kernel
theorem dMo_put_36 : decode prog_9_method_18_code 36 = .ok (.invokevirtual 86, 3) := by decide +kernel
theorem dMo_put_39 : decode prog_9_method_18_code 39 = .ok (.iconst 0, 1) := by decide +kernel
theorem dMo_put_40 : decode prog_9_method_18_code 40 = .ok (.ireturn, 1) := by decide +kernel
abbrev qMo_put (dC : Nat → ClassId) (dI : Nat → Nat → Nat) (dA : Nat → ClassId) (mo : Nat) (ft : Int) (lf : Int) (hg : Int) (kk : Int) (tx : Int) (pn : Int) (tk : Int) (fm : Int) (tO : Int) (tl : Int) (mI : Int → Int) (mT : Int → Int) (mS : Int → Int) (mC : Int → Int) (mL : Int → Int) (mB : Int → Int) (mF : Int → Int) (mU : Int → Int) (mX : Int → Int) (mP : Int → Int) (mK : Int → Int) (mD : Int → Int) (mZ : Int → Int) (ins : Int) (A : Nat → Prop) : Array Value → State → Outcome → State → Prop := QI (dC, dI) vwCl (tyA dA) (fun (r : Int) (v_ : (Int → Int) × (Int → Int) × (Int → Int) × (Int → Int) × (Int → Int) × Int) => putR r hg ins v_.2.2.2.2.2 mT mS mC mL mB v_.1 v_.2.1 v_.2.2.1 v_.2.2.2.1 v_.2.2.2.2.1) (fun (v_ : (Int → Int) × (Int → Int) × (Int → Int) × (Int → Int) × (Int → Int) × Int) => wMo dA mo ft lf v_.2.2.2.2.2 kk tx pn tk fm tO tl mI v_.1 v_.2.1 v_.2.2.1 v_.2.2.2.1 v_.2.2.2.2.1 mF mU mX mP mK mD mZ []) A
abbrev rmMo_put : Room := { frames := 1, cells := 0, slots := 0, locals := 23 }
set_option maxRecDepth 100000 in
set_option maxHeartbeats 1000000 in
theorem cMo_put (l : Launch) (dC : Nat → ClassId) (dI : Nat → Nat → Nat) (dA : Nat → ClassId) (mo : Nat) (ft : Int) (lf : Int) (hg : Int) (kk : Int) (tx : Int) (pn : Int) (tk : Int) (fm : Int) (tO : Int) (tl : Int) (mI : Int → Int) (mT : Int → Int) (mS : Int → Int) (mC : Int → Int) (mL : Int → Int) (mB : Int → Int) (mF : Int → Int) (mU : Int → Int) (mX : Int → Int) (mP : Int → Int) (mK : Int → Int) (mD : Int → Int) (mZ : Int → Int) (ins : Int) (his : 0 ≤ ins ∧ ins ≤ hg ∧ hg ≤ 20) (hbo : mT 46 = 0 ∨ mT 46 = 1) (sz : Nat) : Met l yMo_put wsMo_put rmMo_put (PC (dC, dI) vwCl (tyA dA) XN [.ref mo, .int (iI ins)] (wMo dA mo ft lf hg kk tx pn tk fm tO tl mI mT mS mC mL mB mF mU mX mP mK mD mZ []) sz) (qMo_put dC dI dA mo ft lf hg kk tx pn tk fm tO tl mI mT mS mC mL mB mF mU mX mP mK mD mZ ins (va_A (wMo dA mo ft lf hg kk tx pn tk fm tO tl mI mT mS mC mL mB mF mU mX mP mK mD mZ []) sz)) 0 0 (va_A (wMo dA mo ft lf hg kk tx pn tk fm tO tl mI mT mS mC mL mB mF mU mX mP mK mD mZ []) sz) := by
  refine met_of (cc := prog_9_method_18_code) (maxL := 2) (ret := (some .int)) (Qc := qMo_put dC dI dA mo ft lf hg kk tx pn tk fm tO tl mI mT mS mC mL mB mF mU mX mP mK mD mZ ins) XN_ok (by decide) rfl (Nat.le_of_ble_eq_true rfl) ?_
  intro p e s m below meth c ls A hx hb hr hml hown hts hlocks hnm hK hP hD hA hX hS hl
  have hl : lv_has ls 2 [(0, .ref mo), (1, .int (iI ins))] := hl
  have hown : s.vm.findClass "MacroReckonerModel" = some m.cls := hown
  obtain ⟨H, hH⟩ : ∃ H : Heap, H = s.heap := ⟨_, rfl⟩
  obtain ⟨locs, hlo⟩ : ∃ L : List Loc, L = [] := ⟨_, rfl⟩
  have hP : va_P (dC, dI) vwCl (wMo dA mo ft lf hg kk tx pn tk fm tO tl mI mT mS mC mL mB mF mU mX mP mK mD mZ []) H := hH ▸ hP
  have hS : va_S A s.heap H locs := by rw [hH, hlo]; exact hS
  suffices hgo : W p l e rmMo_put s m [.ref mo, .int (iI ins)].toArray below meth c H locs 0 0 (MQ below (qMo_put dC dI dA mo ft lf hg kk tx pn tk fm tO tl mI mT mS mC mL mB mF mU mX mP mK mD mZ ins A) [.ref mo, .int (iI ins)].toArray s 0 0 A) (F0 m 0 ls []) by rw [hH, hlo] at hgo; exact hgo
  clear hH hlo
  refine lv_aload_n hx hb dMo_put_0 rfl (lv_at hl 0 rfl) ?_
  refine va_get (D := (dC, dI)) (ci := 7) (v := .int (iI hg)) (C := "MacroReckonerModel") (T := TMo) (N := 23) hx hb hts inMo hown hK hP 0 rfl rfl 8 (by decide) (hts _ wt4_66) (fun _ h9 => h9) rfl dMo_put_1 ?_
  refine lv_iload_n hx hb dMo_put_4 rfl (lv_at hl 1 rfl) ?_
  refine iv_isub hx hb dMo_put_5 ?_
  refine lv_bipush (v := iI 20) hx hb dMo_put_6 (by decide) ?_
  refine iv_icmp_ne (tgt := 14) hx hb dMo_put_8 (by decide) ⟨by omega, by omega⟩ ⟨by decide, by decide⟩ (fun hc8 => ?_) (fun hc8 => ?_)
  · refine lv_aload_n hx hb dMo_put_14 rfl (lv_at hl 0 rfl) ?_
    refine lv_aload_n hx hb dMo_put_15 rfl (lv_at hl 0 rfl) ?_
    refine va_get (D := (dC, dI)) (ci := 7) (v := .int (iI hg)) (C := "MacroReckonerModel") (T := TMo) (N := 23) hx hb hts inMo hown hK hP 0 rfl rfl 8 (by decide) (hts _ wt4_66) (fun _ h9 => h9) rfl dMo_put_16 ?_
    refine lv_iload_n hx hb dMo_put_19 rfl (lv_at hl 1 rfl) ?_
    refine iv_isub hx hb dMo_put_20 ?_
    refine lv_iconst (v := iI 1) hx hb dMo_put_21 rfl ?_
    refine iv_iadd hx hb dMo_put_22 ?_
    refine va_put (D := (dC, dI)) (ci := 7) (v := .int (iI ((hg - ins) + 1))) (ty := .int) (C := "MacroReckonerModel") (T := TMo) (N := 23) hx hb hts inMo tyMo tyMo_ok nmMo hown hK hP hD hS 0 rfl rfl 8 (by decide) (hts _ wt4_66) (fun _ h9 => h9) rfl (by decide +kernel) rfl rfl (Nat.le_of_ble_eq_true rfl) dMo_put_23 (fun H locs hP hD hS => ?_)
    have hP : va_P (dC, dI) vwCl (wMo dA mo ft lf ((hg - ins) + 1) kk tx pn tk fm tO tl mI mT mS mC mL mB mF mU mX mP mK mD mZ []) H := hP
    have hD : va_D A (wMo dA mo ft lf ((hg - ins) + 1) kk tx pn tk fm tO tl mI mT mS mC mL mB mF mU mX mP mK mD mZ []) := hD
    refine lv_aload_n hx hb dMo_put_26 rfl (lv_at hl 0 rfl) ?_
    refine lv_bipush (v := iI 25) hx hb dMo_put_27 (by decide) ?_
    refine lv_aload_n hx hb dMo_put_29 rfl (lv_at hl 0 rfl) ?_
    refine va_get (D := (dC, dI)) (ci := 7) (v := .int (iI (((hg - ins) + 1)))) (C := "MacroReckonerModel") (T := TMo) (N := 23) hx hb hts inMo hown hK hP 0 rfl rfl 8 (by decide) (hts _ wt4_66) (fun _ h9 => h9) rfl dMo_put_30 ?_
    refine iv_iadd hx hb dMo_put_33 ?_
    refine lv_bipush (v := iI 46) hx hb dMo_put_34 (by decide) ?_
    refine cv_v (va_runV (C := "MacroReckonerModel") (As := [.int (iI (25 + (((hg - ins) + 1)))), .int (iI 46)]) (rest := []) ⟨hx, hb, hml, hown, hts⟩ (cMo_move l dC dI dA mo ft lf (((hg - ins) + 1)) kk tx pn tk fm tO tl mI mT mS mC mL mB mF mU mX mP mK mD mZ (25 + (((hg - ins) + 1))) 46 (by omega) (by exact hbo) H.size) (cwV 2 hts (gdV wt4_203 wt4_205 ws4_5 wt1_8 wt4_206) rfl rfl rfl ⟨rfl, by decide, by decide, by decide +kernel⟩ ⟨by decide, by decide⟩) (preV (q := ("MacroReckonerModel", TMo, 23)) hK hP hD hS hA XN_ok trivial [0, 1, 2, 3, 4, 5, 6, 7, 8, 9, 10, 11, 12, 13] rfl rfl 0 rfl rfl) rfl rfl hl.1 rfl (lv_room (Nat.le_of_ble_eq_true rfl)) dMo_put_36 ⟨Nat.zero_le _, Nat.zero_le _⟩) hP hD hS hA [0, 1, 2, 3, 4, 5, 6, 7, 8, 9, 10, 11, 12, 13] [] rfl (fun v_ => wMo dA mo ft lf ((((hg - ins) + 1))) kk tx pn tk fm tO tl mI v_.1 v_.2.1 v_.2.2.1 v_.2.2.2.1 v_.2.2.2.2 mF mU mX mP mK mD mZ []) (fun _ => rfl) ([] : va_W) rfl (fun _ => rfl) [mo, mo + 1, mo + 2, mo + 3, mo + 4, mo + 5, mo + 6, mo + 7, mo + 8, mo + 9, mo + 10, mo + 11, mo + 12, mo + 13] rfl (fun _ => rfl) (fun _ => rfl) (fun u_ H locs hq36 hP hD hS => ?_)
    obtain ⟨T1_36, S1_36, C1_36, L1_36, B1_36⟩ := u_
    have hP : va_P (dC, dI) vwCl (wMo dA mo ft lf ((((hg - ins) + 1))) kk tx pn tk fm tO tl mI T1_36 S1_36 C1_36 L1_36 B1_36 mF mU mX mP mK mD mZ []) H := hP
    have hD : va_D A (wMo dA mo ft lf ((((hg - ins) + 1))) kk tx pn tk fm tO tl mI T1_36 S1_36 C1_36 L1_36 B1_36 mF mU mX mP mK mD mZ []) := hD
    have hq36 : (∀ a, MT mT mS mC mL mB 46 a → MT T1_36 S1_36 C1_36 L1_36 B1_36 (25 + (((hg - ins) + 1))) a) ∧ thO mT mS mC mL mB T1_36 S1_36 C1_36 L1_36 B1_36 (25 + (((hg - ins) + 1))) := hq36
    refine lv_iconst (v := iI 0) hx hb dMo_put_39 rfl ?_
    exact rt_i hx hb hr hlocks hK hS dMo_put_40 (T1_36, S1_36, C1_36, L1_36, B1_36, (((hg - ins) + 1))) hP hD (show putR 0 hg ins ((((hg - ins) + 1))) mT mS mC mL mB T1_36 S1_36 C1_36 L1_36 B1_36 from by exact Or.inr ⟨rfl, by omega, rfl, hq36.1, hq36.2⟩)
  · refine lv_bipush (v := iI (-8)) hx hb dMo_put_11 (by decide) ?_
    exact rt_i hx hb hr hlocks hK hS dMo_put_13 (mT, mS, mC, mL, mB, hg) hP hD (show putR (-8) hg ins hg mT mS mC mL mB mT mS mC mL mB from by exact Or.inl ⟨rfl, by omega, rfl, rfl, rfl, rfl, rfl, rfl⟩)

theorem dMo_greater_0 : decode prog_9_method_19_code 0 = .ok (.iload_n 0, 1) := by decide +kernel
theorem dMo_greater_1 : decode prog_9_method_19_code 1 = .ok (.iload_n 1, 1) := by decide +kernel
theorem dMo_greater_2 : decode prog_9_method_19_code 2 = .ok (.if_icmp .le 7, 3) := by decide +kernel
theorem dMo_greater_5 : decode prog_9_method_19_code 5 = .ok (.iload_n 0, 1) := by decide +kernel
theorem dMo_greater_6 : decode prog_9_method_19_code 6 = .ok (.goto 4, 3) := by decide +kernel
theorem dMo_greater_9 : decode prog_9_method_19_code 9 = .ok (.iload_n 1, 1) := by decide +kernel
theorem dMo_greater_10 : decode prog_9_method_19_code 10 = .ok (.ireturn, 1) := by decide +kernel
abbrev qMo_greater (dC : Nat → ClassId) (dI : Nat → Nat → Nat) (dA : Nat → ClassId) (x : Int) (y : Int) (A : Nat → Prop) : Array Value → State → Outcome → State → Prop := QI (dC, dI) vwCl (tyA dA) (fun (r : Int) (v_ : Unit) => r = max x y) (fun (v_ : Unit) => ([] : va_W)) A
abbrev rmMo_greater : Room := { frames := 0, cells := 0, slots := 0, locals := 0 }
set_option maxRecDepth 100000 in
set_option maxHeartbeats 1000000 in
theorem cMo_greater (l : Launch) (dC : Nat → ClassId) (dI : Nat → Nat → Nat) (dA : Nat → ClassId) (x : Int) (y : Int) (hxr : r32 x ∧ r32 y) (sz : Nat) : Met l yMo_greater wsMo_greater rmMo_greater (PC (dC, dI) vwCl (tyA dA) XN [.int (iI x), .int (iI y)] (([] : va_W)) sz) (qMo_greater dC dI dA x y (va_A (([] : va_W)) sz)) 0 0 (va_A (([] : va_W)) sz) := by
  refine met_of (cc := prog_9_method_19_code) (maxL := 2) (ret := (some .int)) (Qc := qMo_greater dC dI dA x y) XN_ok (by decide) rfl (Nat.le_of_ble_eq_true rfl) ?_
  intro p e s m below meth c ls A hx hb hr hml hown hts hlocks hnm hK hP hD hA hX hS hl
  have hl : lv_has ls 2 [(0, .int (iI x)), (1, .int (iI y))] := hl
  have hown : s.vm.findClass "MacroReckonerModel" = some m.cls := hown
  obtain ⟨H, hH⟩ : ∃ H : Heap, H = s.heap := ⟨_, rfl⟩
  obtain ⟨locs, hlo⟩ : ∃ L : List Loc, L = [] := ⟨_, rfl⟩
  have hP : va_P (dC, dI) vwCl (([] : va_W)) H := hH ▸ hP
  have hS : va_S A s.heap H locs := by rw [hH, hlo]; exact hS
  suffices hgo : W p l e rmMo_greater s m [.int (iI x), .int (iI y)].toArray below meth c H locs 0 0 (MQ below (qMo_greater dC dI dA x y A) [.int (iI x), .int (iI y)].toArray s 0 0 A) (F0 m 0 ls []) by rw [hH, hlo] at hgo; exact hgo
  clear hH hlo
  refine lv_iload_n hx hb dMo_greater_0 rfl (lv_at hl 0 rfl) ?_
  refine lv_iload_n hx hb dMo_greater_1 rfl (lv_at hl 1 rfl) ?_
  refine iv_icmp_le (tgt := 9) hx hb dMo_greater_2 (by decide) ⟨by omega, by omega⟩ ⟨by omega, by omega⟩ (fun hc2 => ?_) (fun hc2 => ?_)
  · refine lv_iload_n hx hb dMo_greater_9 rfl (lv_at hl 1 rfl) ?_
    exact rt_i hx hb hr hlocks hK hS dMo_greater_10 () hP hD (show y = max x y from by omega)
  · refine lv_iload_n hx hb dMo_greater_5 rfl (lv_at hl 0 rfl) ?_
    refine lv_goto (tgt := 10) hx hb dMo_greater_6 (by decide) ?_
    exact rt_i hx hb hr hlocks hK hS dMo_greater_10 () hP hD (show x = max x y from by omega)
