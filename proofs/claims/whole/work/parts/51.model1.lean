theorem dMo_trim_0 : decode prog_9_method_3_code 0 = .ok (.aload_n 0, 1) := by decide +kernel
theorem dMo_trim_1 : decode prog_9_method_3_code 1 = .ok (.getfield 47, 3) := by decide +kernel
theorem dMo_trim_4 : decode prog_9_method_3_code 4 = .ok (.iload_n 1, 1) := by decide +kernel
theorem dMo_trim_5 : decode prog_9_method_3_code 5 = .ok (.iaload, 1) := by decide +kernel
theorem dMo_trim_6 : decode prog_9_method_3_code 6 = .ok (.ifCond .le 38, 3) := by decide +kernel
theorem dMo_trim_9 : decode prog_9_method_3_code 9 = .ok (.aload_n 0, 1) := by decide +kernel
theorem dMo_trim_10 : decode prog_9_method_3_code 10 = .ok (.getfield 44, 3) := by decide +kernel
theorem dMo_trim_13 : decode prog_9_method_3_code 13 = .ok (.sipush 340, 3) := by decide +kernel
theorem dMo_trim_16 : decode prog_9_method_3_code 16 = .ok (.iload_n 1, 1) := by decide +kernel
theorem dMo_trim_17 : decode prog_9_method_3_code 17 = .ok (.imul, 1) := by decide +kernel
theorem dMo_trim_18 : decode prog_9_method_3_code 18 = .ok (.aload_n 0, 1) := by decide +kernel
theorem dMo_trim_19 : decode prog_9_method_3_code 19 = .ok (.getfield 47, 3) := by decide +kernel
theorem dMo_trim_22 : decode prog_9_method_3_code 22 = .ok (.iload_n 1, 1) := by decide +kernel
theorem dMo_trim_23 : decode prog_9_method_3_code 23 = .ok (.iaload, 1) := by decide +kernel
theorem dMo_trim_24 : decode prog_9_method_3_code 24 = .ok (.iadd, 1) := by decide +kernel
theorem dMo_trim_25 : decode prog_9_method_3_code 25 = .ok (.iconst 1, 1) := by decide +kernel
theorem dMo_trim_26 : decode prog_9_method_3_code 26 = .ok (.isub, 1) := by decide +kernel
theorem dMo_trim_27 : decode prog_9_method_3_code 27 = .ok (.iaload, 1) := by decide +kernel
theorem dMo_trim_28 : decode prog_9_method_3_code 28 = .ok (.ifCond .ne 16, 3) := by decide +kernel
theorem dMo_trim_31 : decode prog_9_method_3_code 31 = .ok (.aload_n 0, 1) := by decide +kernel
theorem dMo_trim_32 : decode prog_9_method_3_code 32 = .ok (.getfield 47, 3) := by decide +kernel
theorem dMo_trim_35 : decode prog_9_method_3_code 35 = .ok (.iload_n 1, 1) := by decide +kernel
theorem dMo_trim_36 : decode prog_9_method_3_code 36 = .ok (.dup2, 1) := by decide +kernel
theorem dMo_trim_37 : decode prog_9_method_3_code 37 = .ok (.iaload, 1) := by decide +kernel
theorem dMo_trim_38 : decode prog_9_method_3_code 38 = .ok (.iconst 1, 1) := by decide +kernel
theorem dMo_trim_39 : decode prog_9_method_3_code 39 = .ok (.isub, 1) := by decide +kernel
theorem dMo_trim_40 : decode prog_9_method_3_code 40 = .ok (.iastore, 1) := by decide +kernel
theorem dMo_trim_41 : decode prog_9_method_3_code 41 = .ok (.goto (-41), 3) := by decide +kernel
theorem dMo_trim_44 : decode prog_9_method_3_code 44 = .ok (.return_, 1) := by decide +kernel
abbrev qMo_trim (dC : Nat → ClassId) (dI : Nat → Nat → Nat) (dA : Nat → ClassId) (mo : Nat) (ft : Int) (lf : Int) (hg : Int) (kk : Int) (tx : Int) (pn : Int) (tk : Int) (fm : Int) (tO : Int) (tl : Int) (mI : Int → Int) (mT : Int → Int) (mS : Int → Int) (mC : Int → Int) (mL : Int → Int) (mB : Int → Int) (mF : Int → Int) (mU : Int → Int) (mX : Int → Int) (mP : Int → Int) (mK : Int → Int) (mD : Int → Int) (mZ : Int → Int) (i : Int) (N : Int) (A : Nat → Prop) : Array Value → State → Outcome → State → Prop := QV (dC, dI) vwCl (tyA dA) (fun (v_ : (Int → Int)) => MR mD v_ i N ∧ ∀ j, j ≠ i → v_ j = mZ j) (fun (v_ : (Int → Int)) => wMo dA mo ft lf hg kk tx pn tk fm tO tl mI mT mS mC mL mB mF mU mX mP mK mD v_ []) A
abbrev rmMo_trim : Room := { frames := 0, cells := 0, slots := 0, locals := 0 }
set_option maxRecDepth 100000 in
set_option maxHeartbeats 1000000 in
theorem cMo_trim (l : Launch) (dC : Nat → ClassId) (dI : Nat → Nat → Nat) (dA : Nat → ClassId) (mo : Nat) (ft : Int) (lf : Int) (hg : Int) (kk : Int) (tx : Int) (pn : Int) (tk : Int) (fm : Int) (tO : Int) (tl : Int) (mI : Int → Int) (mT : Int → Int) (mS : Int → Int) (mC : Int → Int) (mL : Int → Int) (mB : Int → Int) (mF : Int → Int) (mU : Int → Int) (mX : Int → Int) (mP : Int → Int) (mK : Int → Int) (mD : Int → Int) (mZ : Int → Int) (i : Int) (N : Int) (hi : 0 ≤ i ∧ i ≤ 4) (hM : MD mD mZ i N) (sz : Nat) : Met l yMo_trim wsMo_trim rmMo_trim (PC (dC, dI) vwCl (tyA dA) XN [.ref mo, .int (iI i)] (wMo dA mo ft lf hg kk tx pn tk fm tO tl mI mT mS mC mL mB mF mU mX mP mK mD mZ []) sz) (qMo_trim dC dI dA mo ft lf hg kk tx pn tk fm tO tl mI mT mS mC mL mB mF mU mX mP mK mD mZ i N (va_A (wMo dA mo ft lf hg kk tx pn tk fm tO tl mI mT mS mC mL mB mF mU mX mP mK mD mZ []) sz)) 0 0 (va_A (wMo dA mo ft lf hg kk tx pn tk fm tO tl mI mT mS mC mL mB mF mU mX mP mK mD mZ []) sz) := by
  refine met_of (cc := prog_9_method_3_code) (maxL := 2) (ret := none) (Qc := qMo_trim dC dI dA mo ft lf hg kk tx pn tk fm tO tl mI mT mS mC mL mB mF mU mX mP mK mD mZ i N) XN_ok (by decide) rfl (Nat.le_of_ble_eq_true rfl) ?_
  intro p e s m below meth c ls A hx hb hr hml hown hts hlocks hnm hK hP hD hA hX hS hl
  have hl : lv_has ls 2 [(0, .ref mo), (1, .int (iI i))] := hl
  have hown : s.vm.findClass "MacroReckonerModel" = some m.cls := hown
  obtain ⟨H, hH⟩ : ∃ H : Heap, H = s.heap := ⟨_, rfl⟩
  obtain ⟨locs, hlo⟩ : ∃ L : List Loc, L = [] := ⟨_, rfl⟩
  have hP : va_P (dC, dI) vwCl (wMo dA mo ft lf hg kk tx pn tk fm tO tl mI mT mS mC mL mB mF mU mX mP mK mD mZ []) H := hH ▸ hP
  have hS : va_S A s.heap H locs := by rw [hH, hlo]; exact hS
  suffices hgo : W p l e rmMo_trim s m [.ref mo, .int (iI i)].toArray below meth c H locs 0 0 (MQ below (qMo_trim dC dI dA mo ft lf hg kk tx pn tk fm tO tl mI mT mS mC mL mB mF mU mX mP mK mD mZ i N A) [.ref mo, .int (iI i)].toArray s 0 0 A) (F0 m 0 ls []) by rw [hH, hlo] at hgo; exact hgo
  clear hH hlo
  have L0 : ∀ (n : Nat) (Z9 : Int → Int) (H : Heap) (locs : List Loc) (ls : Array Slot), (MD mD Z9 i N) → (∀ j, j ≠ i → Z9 j = mZ j) → (Z9 i).toNat < n → va_P (dC, dI) vwCl (wMo dA mo ft lf hg kk tx pn tk fm tO tl mI mT mS mC mL mB mF mU mX mP mK mD Z9 []) H → va_D A (wMo dA mo ft lf hg kk tx pn tk fm tO tl mI mT mS mC mL mB mF mU mX mP mK mD Z9 []) → va_S A s.heap H locs → lv_has ls 2 [(0, .ref mo), (1, .int (iI i))] → W p l e rmMo_trim s m [.ref mo, .int (iI i)].toArray below meth c H locs 0 0 (MQ below (qMo_trim dC dI dA mo ft lf hg kk tx pn tk fm tO tl mI mT mS mC mL mB mF mU mX mP mK mD mZ i N A) [.ref mo, .int (iI i)].toArray s 0 0 A) (F0 m 0 ls []) := by
    intro n
    induction n with
    | zero => intro Z9 H locs ls hJ ho hn; omega
    | succ n ih =>
      intro Z9 H locs ls hJ ho hn hP hD hS hl
      have hz := hJ.1
      have ih0 := ih
      refine lv_aload_n hx hb dMo_trim_0 rfl (lv_at hl 0 rfl) ?_
      refine va_get (D := (dC, dI)) (ci := 7) (v := .ref (mo + 13)) (C := "MacroReckonerModel") (T := TMo) (N := 23) hx hb hts inMo hown hK hP 0 rfl rfl 22 (by decide) (hts _ wt4_80) (fun _ h9 => h9) rfl dMo_trim_1 ?_
      refine lv_iload_n hx hb dMo_trim_4 rfl (lv_at hl 1 rfl) ?_
      refine iv_iald hx hb hK hP 13 0 rfl rfl (by decide) dMo_trim_5 (by omega) (by omega) ?_
      refine iv_if_le (tgt := 44) hx hb dMo_trim_6 (by decide) ⟨by omega, by omega⟩ (fun hc6 => ?_) (fun hc6 => ?_)
      · exact rt_v hx hb hr hlocks hK hS dMo_trim_44 (Z9) hP hD (show MR mD Z9 i N ∧ ∀ j, j ≠ i → Z9 j = mZ j from by refine ⟨⟨hJ, fun z => ?_⟩, ho⟩; first | (exact absurd z (by omega)) | (rw [show 340 * i + (Z9 i - 1) = 340 * i + Z9 i - 1 by omega]; exact hc28))
      · refine lv_aload_n hx hb dMo_trim_9 rfl (lv_at hl 0 rfl) ?_
        refine va_get (D := (dC, dI)) (ci := 7) (v := .ref (mo + 12)) (C := "MacroReckonerModel") (T := TMo) (N := 23) hx hb hts inMo hown hK hP 0 rfl rfl 21 (by decide) (hts _ wt4_79) (fun _ h9 => h9) rfl dMo_trim_10 ?_
        refine lv_sipush (v := iI 340) hx hb dMo_trim_13 (by decide) ?_
        refine lv_iload_n hx hb dMo_trim_16 rfl (lv_at hl 1 rfl) ?_
        refine iv_imul hx hb dMo_trim_17 ?_
        refine lv_aload_n hx hb dMo_trim_18 rfl (lv_at hl 0 rfl) ?_
        refine va_get (D := (dC, dI)) (ci := 7) (v := .ref (mo + 13)) (C := "MacroReckonerModel") (T := TMo) (N := 23) hx hb hts inMo hown hK hP 0 rfl rfl 22 (by decide) (hts _ wt4_80) (fun _ h9 => h9) rfl dMo_trim_19 ?_
        refine lv_iload_n hx hb dMo_trim_22 rfl (lv_at hl 1 rfl) ?_
        refine iv_iald hx hb hK hP 13 0 rfl rfl (by decide) dMo_trim_23 (by omega) (by omega) ?_
        refine iv_iadd hx hb dMo_trim_24 ?_
        refine lv_iconst (v := iI 1) hx hb dMo_trim_25 rfl ?_
        refine iv_isub hx hb dMo_trim_26 ?_
        have hdd := hJ.2.1 (Z9 i - 1) (by omega) (by omega)
        rw [show 340 * i + (Z9 i - 1) = 340 * i + Z9 i - 1 by omega] at hdd
        refine iv_iald hx hb hK hP 12 0 rfl rfl (by decide) dMo_trim_27 (by omega) (by omega) ?_
        refine iv_if_ne (tgt := 44) hx hb dMo_trim_28 (by decide) ⟨by omega, by omega⟩ (fun hc28 => ?_) (fun hc28 => ?_)
        · exact rt_v hx hb hr hlocks hK hS dMo_trim_44 (Z9) hP hD (show MR mD Z9 i N ∧ ∀ j, j ≠ i → Z9 j = mZ j from by refine ⟨⟨hJ, fun z => ?_⟩, ho⟩; first | (exact absurd z (by omega)) | (rw [show 340 * i + (Z9 i - 1) = 340 * i + Z9 i - 1 by omega]; exact hc28))
        · refine lv_aload_n hx hb dMo_trim_31 rfl (lv_at hl 0 rfl) ?_
          refine va_get (D := (dC, dI)) (ci := 7) (v := .ref (mo + 13)) (C := "MacroReckonerModel") (T := TMo) (N := 23) hx hb hts inMo hown hK hP 0 rfl rfl 22 (by decide) (hts _ wt4_80) (fun _ h9 => h9) rfl dMo_trim_32 ?_
          refine lv_iload_n hx hb dMo_trim_35 rfl (lv_at hl 1 rfl) ?_
          refine lv_dup2_11 hx hb dMo_trim_36 rfl rfl ?_
          refine iv_iald hx hb hK hP 13 0 rfl rfl (by decide) dMo_trim_37 (by omega) (by omega) ?_
          refine lv_iconst (v := iI 1) hx hb dMo_trim_38 rfl ?_
          refine iv_isub hx hb dMo_trim_39 ?_
          refine iv_iast (v := (Z9 i) - 1) hx hb hK hP hD hS 13 0 rfl rfl (by decide) dMo_trim_40 (by omega) (by omega) (fun H locs hP hD hS => ?_)
          have hP : va_P (dC, dI) vwCl (wMo dA mo ft lf hg kk tx pn tk fm tO tl mI mT mS mC mL mB mF mU mX mP mK mD (up Z9 i ((Z9 i) - 1)) []) H := hP
          have hD : va_D A (wMo dA mo ft lf hg kk tx pn tk fm tO tl mI mT mS mC mL mB mF mU mX mP mK mD (up Z9 i ((Z9 i) - 1)) []) := hD
          refine lv_goto (tgt := 0) hx hb dMo_trim_41 (by decide) ?_
          exact ih0 (up Z9 i ((Z9 i) - 1)) H locs ls (by exact MD_s hJ hc6 hc28) (by intro j x; rw [up_n x]; exact ho j x) (by rw [up_s]; omega) hP hD hS (lv_sub hl [0, 1] rfl)
  exact L0 _ mZ H locs ls (by exact hM) (by intro j _; rfl) (Nat.lt_succ_self _) hP hD hS (lv_sub hl [0, 1] rfl)

theorem dMo_unit_0 : decode prog_9_method_5_code 0 = .ok (.iconst 0, 1) := by decide +kernel
theorem dMo_unit_1 : decode prog_9_method_5_code 1 = .ok (.istore_n 3, 1) := by decide +kernel
theorem dMo_unit_2 : decode prog_9_method_5_code 2 = .ok (.iload_n 3, 1) := by decide +kernel
theorem dMo_unit_3 : decode prog_9_method_5_code 3 = .ok (.iload_n 2, 1) := by decide +kernel
theorem dMo_unit_4 : decode prog_9_method_5_code 4 = .ok (.if_icmp .ge 22, 3) := by decide +kernel
theorem dMo_unit_7 : decode prog_9_method_5_code 7 = .ok (.aload_n 0, 1) := by decide +kernel
theorem dMo_unit_8 : decode prog_9_method_5_code 8 = .ok (.getfield 44, 3) := by decide +kernel
theorem dMo_unit_11 : decode prog_9_method_5_code 11 = .ok (.sipush 340, 3) := by decide +kernel
theorem dMo_unit_14 : decode prog_9_method_5_code 14 = .ok (.iload_n 1, 1) := by decide +kernel
theorem dMo_unit_15 : decode prog_9_method_5_code 15 = .ok (.imul, 1) := by decide +kernel
theorem dMo_unit_16 : decode prog_9_method_5_code 16 = .ok (.iload_n 3, 1) := by decide +kernel
theorem dMo_unit_17 : decode prog_9_method_5_code 17 = .ok (.iadd, 1) := by decide +kernel
theorem dMo_unit_18 : decode prog_9_method_5_code 18 = .ok (.iconst 0, 1) := by decide +kernel
theorem dMo_unit_19 : decode prog_9_method_5_code 19 = .ok (.iastore, 1) := by decide +kernel
theorem dMo_unit_20 : decode prog_9_method_5_code 20 = .ok (.iinc 3 1, 3) := by decide +kernel
theorem dMo_unit_23 : decode prog_9_method_5_code 23 = .ok (.goto (-21), 3) := by decide +kernel
theorem dMo_unit_26 : decode prog_9_method_5_code 26 = .ok (.aload_n 0, 1) := by decide +kernel
theorem dMo_unit_27 : decode prog_9_method_5_code 27 = .ok (.getfield 44, 3) := by decide +kernel
theorem dMo_unit_30 : decode prog_9_method_5_code 30 = .ok (.sipush 340, 3) := by decide +kernel
theorem dMo_unit_33 : decode prog_9_method_5_code 33 = .ok (.iload_n 1, 1) := by decide +kernel
theorem dMo_unit_34 : decode prog_9_method_5_code 34 = .ok (.imul, 1) := by decide +kernel
theorem dMo_unit_35 : decode prog_9_method_5_code 35 = .ok (.iload_n 2, 1) := by decide +kernel
theorem dMo_unit_36 : decode prog_9_method_5_code 36 = .ok (.iadd, 1) := by decide +kernel
theorem dMo_unit_37 : decode prog_9_method_5_code 37 = .ok (.iconst 1, 1) := by decide +kernel
theorem dMo_unit_38 : decode prog_9_method_5_code 38 = .ok (.iastore, 1) := by decide +kernel
theorem dMo_unit_39 : decode prog_9_method_5_code 39 = .ok (.aload_n 0, 1) := by decide +kernel
theorem dMo_unit_40 : decode prog_9_method_5_code 40 = .ok (.getfield 47, 3) := by decide +kernel
theorem dMo_unit_43 : decode prog_9_method_5_code 43 = .ok (.iload_n 1, 1) := by decide +kernel
theorem dMo_unit_44 : decode prog_9_method_5_code 44 = .ok (.iload_n 2, 1) := by decide +kernel
theorem dMo_unit_45 : decode prog_9_method_5_code 45 = .ok (.iconst 1, 1) := by decide +kernel
theorem dMo_unit_46 : decode prog_9_method_5_code 46 = .ok (.iadd, 1) := by decide +kernel
theorem dMo_unit_47 : decode prog_9_method_5_code 47 = .ok (.iastore, 1) := by decide +kernel
theorem dMo_unit_48 : decode prog_9_method_5_code 48 = .ok (.return_, 1) := by decide +kernel
abbrev qMo_unit (dC : Nat → ClassId) (dI : Nat → Nat → Nat) (dA : Nat → ClassId) (mo : Nat) (ft : Int) (lf : Int) (hg : Int) (kk : Int) (tx : Int) (pn : Int) (tk : Int) (fm : Int) (tO : Int) (tl : Int) (mI : Int → Int) (mT : Int → Int) (mS : Int → Int) (mC : Int → Int) (mL : Int → Int) (mB : Int → Int) (mF : Int → Int) (mU : Int → Int) (mX : Int → Int) (mP : Int → Int) (mK : Int → Int) (mD : Int → Int) (mZ : Int → Int) (i : Int) (pw : Int) (A : Nat → Prop) : Array Value → State → Outcome → State → Prop := QV (dC, dI) vwCl (tyA dA) (fun (v_ : (Int → Int) × (Int → Int)) => MR v_.1 v_.2 i (PW 10 pw) ∧ others mD mZ v_.1 v_.2 i) (fun (v_ : (Int → Int) × (Int → Int)) => wMo dA mo ft lf hg kk tx pn tk fm tO tl mI mT mS mC mL mB mF mU mX mP mK v_.1 v_.2 []) A
abbrev rmMo_unit : Room := { frames := 0, cells := 0, slots := 0, locals := 0 }
set_option maxRecDepth 100000 in
set_option maxHeartbeats 1000000 in
theorem cMo_unit (l : Launch) (dC : Nat → ClassId) (dI : Nat → Nat → Nat) (dA : Nat → ClassId) (mo : Nat) (ft : Int) (lf : Int) (hg : Int) (kk : Int) (tx : Int) (pn : Int) (tk : Int) (fm : Int) (tO : Int) (tl : Int) (mI : Int → Int) (mT : Int → Int) (mS : Int → Int) (mC : Int → Int) (mL : Int → Int) (mB : Int → Int) (mF : Int → Int) (mU : Int → Int) (mX : Int → Int) (mP : Int → Int) (mK : Int → Int) (mD : Int → Int) (mZ : Int → Int) (i : Int) (pw : Int) (hi : 0 ≤ i ∧ i ≤ 4) (hpw : 0 ≤ pw ∧ pw ≤ 339) (sz : Nat) : Met l yMo_unit wsMo_unit rmMo_unit (PC (dC, dI) vwCl (tyA dA) XN [.ref mo, .int (iI i), .int (iI pw)] (wMo dA mo ft lf hg kk tx pn tk fm tO tl mI mT mS mC mL mB mF mU mX mP mK mD mZ []) sz) (qMo_unit dC dI dA mo ft lf hg kk tx pn tk fm tO tl mI mT mS mC mL mB mF mU mX mP mK mD mZ i pw (va_A (wMo dA mo ft lf hg kk tx pn tk fm tO tl mI mT mS mC mL mB mF mU mX mP mK mD mZ []) sz)) 0 0 (va_A (wMo dA mo ft lf hg kk tx pn tk fm tO tl mI mT mS mC mL mB mF mU mX mP mK mD mZ []) sz) := by
  refine met_of (cc := prog_9_method_5_code) (maxL := 4) (ret := none) (Qc := qMo_unit dC dI dA mo ft lf hg kk tx pn tk fm tO tl mI mT mS mC mL mB mF mU mX mP mK mD mZ i pw) XN_ok (by decide) rfl (Nat.le_of_ble_eq_true rfl) ?_
  intro p e s m below meth c ls A hx hb hr hml hown hts hlocks hnm hK hP hD hA hX hS hl
  have hl : lv_has ls 4 [(0, .ref mo), (1, .int (iI i)), (2, .int (iI pw))] := hl
  have hown : s.vm.findClass "MacroReckonerModel" = some m.cls := hown
  obtain ⟨H, hH⟩ : ∃ H : Heap, H = s.heap := ⟨_, rfl⟩
  obtain ⟨locs, hlo⟩ : ∃ L : List Loc, L = [] := ⟨_, rfl⟩
  have hP : va_P (dC, dI) vwCl (wMo dA mo ft lf hg kk tx pn tk fm tO tl mI mT mS mC mL mB mF mU mX mP mK mD mZ []) H := hH ▸ hP
  have hS : va_S A s.heap H locs := by rw [hH, hlo]; exact hS
  suffices hgo : W p l e rmMo_unit s m [.ref mo, .int (iI i), .int (iI pw)].toArray below meth c H locs 0 0 (MQ below (qMo_unit dC dI dA mo ft lf hg kk tx pn tk fm tO tl mI mT mS mC mL mB mF mU mX mP mK mD mZ i pw A) [.ref mo, .int (iI i), .int (iI pw)].toArray s 0 0 A) (F0 m 0 ls []) by rw [hH, hlo] at hgo; exact hgo
  clear hH hlo
  refine lv_iconst (v := iI 0) hx hb dMo_unit_0 rfl ?_
  refine lv_istore_n (lv' := [(3, .int (iI 0)), (0, .ref mo), (1, .int (iI i)), (2, .int (iI pw))]) hx hb dMo_unit_1 rfl hl (by decide) rfl (fun ls hl => ?_)
  have L2 : ∀ (n : Nat) (D9 : Int → Int) (j : Int) (H : Heap) (locs : List Loc) (ls : Array Slot), (0 ≤ j ∧ j ≤ pw) → (∀ t, 0 ≤ t → t < j → D9 (340 * i + t) = 0) → (∀ p, p < 340 * i ∨ 340 * i + 340 ≤ p → D9 p = mD p) → (pw - j).toNat < n → va_P (dC, dI) vwCl (wMo dA mo ft lf hg kk tx pn tk fm tO tl mI mT mS mC mL mB mF mU mX mP mK D9 mZ []) H → va_D A (wMo dA mo ft lf hg kk tx pn tk fm tO tl mI mT mS mC mL mB mF mU mX mP mK D9 mZ []) → va_S A s.heap H locs → lv_has ls 4 [(3, .int (iI j)), (0, .ref mo), (1, .int (iI i)), (2, .int (iI pw))] → W p l e rmMo_unit s m [.ref mo, .int (iI i), .int (iI pw)].toArray below meth c H locs 0 0 (MQ below (qMo_unit dC dI dA mo ft lf hg kk tx pn tk fm tO tl mI mT mS mC mL mB mF mU mX mP mK mD mZ i pw A) [.ref mo, .int (iI i), .int (iI pw)].toArray s 0 0 A) (F0 m 2 ls []) := by
    intro n
    induction n with
    | zero => intro D9 j H locs ls hj h0 ho hn; omega
    | succ n ih =>
      intro D9 j H locs ls hj h0 ho hn hP hD hS hl
      have ih2 := ih
      refine lv_iload_n hx hb dMo_unit_2 rfl (lv_at hl 0 rfl) ?_
      refine lv_iload_n hx hb dMo_unit_3 rfl (lv_at hl 3 rfl) ?_
      refine iv_icmp_ge (tgt := 26) hx hb dMo_unit_4 (by decide) ⟨by omega, by omega⟩ ⟨by omega, by omega⟩ (fun hc4 => ?_) (fun hc4 => ?_)
      · refine lv_aload_n hx hb dMo_unit_26 rfl (lv_at hl 1 rfl) ?_
        refine va_get (D := (dC, dI)) (ci := 7) (v := .ref (mo + 12)) (C := "MacroReckonerModel") (T := TMo) (N := 23) hx hb hts inMo hown hK hP 0 rfl rfl 21 (by decide) (hts _ wt4_79) (fun _ h9 => h9) rfl dMo_unit_27 ?_
        refine lv_sipush (v := iI 340) hx hb dMo_unit_30 (by decide) ?_
        refine lv_iload_n hx hb dMo_unit_33 rfl (lv_at hl 2 rfl) ?_
        refine iv_imul hx hb dMo_unit_34 ?_
        refine lv_iload_n hx hb dMo_unit_35 rfl (lv_at hl 3 rfl) ?_
        refine iv_iadd hx hb dMo_unit_36 ?_
        refine lv_iconst (v := iI 1) hx hb dMo_unit_37 rfl ?_
        refine iv_iast (v := 1) hx hb hK hP hD hS 12 0 rfl rfl (by decide) dMo_unit_38 (by omega) (by omega) (fun H locs hP hD hS => ?_)
        have hP : va_P (dC, dI) vwCl (wMo dA mo ft lf hg kk tx pn tk fm tO tl mI mT mS mC mL mB mF mU mX mP mK (up D9 ((340 * i) + pw) 1) mZ []) H := hP
        have hD : va_D A (wMo dA mo ft lf hg kk tx pn tk fm tO tl mI mT mS mC mL mB mF mU mX mP mK (up D9 ((340 * i) + pw) 1) mZ []) := hD
        refine lv_aload_n hx hb dMo_unit_39 rfl (lv_at hl 1 rfl) ?_
        refine va_get (D := (dC, dI)) (ci := 7) (v := .ref (mo + 13)) (C := "MacroReckonerModel") (T := TMo) (N := 23) hx hb hts inMo hown hK hP 0 rfl rfl 22 (by decide) (hts _ wt4_80) (fun _ h9 => h9) rfl dMo_unit_40 ?_
        refine lv_iload_n hx hb dMo_unit_43 rfl (lv_at hl 2 rfl) ?_
        refine lv_iload_n hx hb dMo_unit_44 rfl (lv_at hl 3 rfl) ?_
        refine lv_iconst (v := iI 1) hx hb dMo_unit_45 rfl ?_
        refine iv_iadd hx hb dMo_unit_46 ?_
        refine iv_iast (v := pw + 1) hx hb hK hP hD hS 13 0 rfl rfl (by decide) dMo_unit_47 (by omega) (by omega) (fun H locs hP hD hS => ?_)
        have hP : va_P (dC, dI) vwCl (wMo dA mo ft lf hg kk tx pn tk fm tO tl mI mT mS mC mL mB mF mU mX mP mK (up D9 ((340 * i) + pw) 1) (up mZ i (pw + 1)) []) H := hP
        have hD : va_D A (wMo dA mo ft lf hg kk tx pn tk fm tO tl mI mT mS mC mL mB mF mU mX mP mK (up D9 ((340 * i) + pw) 1) (up mZ i (pw + 1)) []) := hD
        exact rt_v hx hb hr hlocks hK hS dMo_unit_48 (up D9 ((340 * i) + pw) 1, up mZ i (pw + 1)) hP hD (show MR (up D9 ((340 * i) + pw) 1) (up mZ i (pw + 1)) i (PW 10 pw) ∧ others mD mZ (up D9 ((340 * i) + pw) 1) (up mZ i (pw + 1)) i from by exact ⟨unit_e hpw (fun t x y => h0 t x (by omega)), fun p x => by rw [up_n (by omega)]; exact ho p x, fun t x => up_n x⟩)
      · refine lv_aload_n hx hb dMo_unit_7 rfl (lv_at hl 1 rfl) ?_
        refine va_get (D := (dC, dI)) (ci := 7) (v := .ref (mo + 12)) (C := "MacroReckonerModel") (T := TMo) (N := 23) hx hb hts inMo hown hK hP 0 rfl rfl 21 (by decide) (hts _ wt4_79) (fun _ h9 => h9) rfl dMo_unit_8 ?_
        refine lv_sipush (v := iI 340) hx hb dMo_unit_11 (by decide) ?_
        refine lv_iload_n hx hb dMo_unit_14 rfl (lv_at hl 2 rfl) ?_
        refine iv_imul hx hb dMo_unit_15 ?_
        refine lv_iload_n hx hb dMo_unit_16 rfl (lv_at hl 0 rfl) ?_
        refine iv_iadd hx hb dMo_unit_17 ?_
        refine lv_iconst (v := iI 0) hx hb dMo_unit_18 rfl ?_
        refine iv_iast (v := 0) hx hb hK hP hD hS 12 0 rfl rfl (by decide) dMo_unit_19 (by omega) (by omega) (fun H locs hP hD hS => ?_)
        have hP : va_P (dC, dI) vwCl (wMo dA mo ft lf hg kk tx pn tk fm tO tl mI mT mS mC mL mB mF mU mX mP mK (up D9 ((340 * i) + j) 0) mZ []) H := hP
        have hD : va_D A (wMo dA mo ft lf hg kk tx pn tk fm tO tl mI mT mS mC mL mB mF mU mX mP mK (up D9 ((340 * i) + j) 0) mZ []) := hD
        refine lv_iinc (k := 0) (lv' := [(3, .int (iI (j + 1))), (0, .ref mo), (1, .int (iI i)), (2, .int (iI pw))]) (v := iI (j + 1)) hx hb dMo_unit_20 hl rfl (iI_add _ _).symm (by decide) rfl (fun ls hl => ?_)
        refine lv_goto (tgt := 2) hx hb dMo_unit_23 (by decide) ?_
        exact ih2 (up D9 ((340 * i) + j) 0) (j + 1) H locs ls (by omega) (by intro t x y; by_cases z : t = j; rw [z, up_s]; rw [up_n (by omega)]; exact h0 t x (by omega)) (by intro p x; rw [up_n (by omega)]; exact ho p x) (by omega) hP hD hS (lv_sub hl [0, 1, 2, 3] rfl)
  exact L2 _ mD 0 H locs ls (by omega) (by intro t x y; omega) (by intro p _; rfl) (Nat.lt_succ_self _) hP hD hS (lv_sub hl [0, 1, 2, 3] rfl)

theorem dMo_copy_0 : decode prog_9_method_6_code 0 = .ok (.iconst 0, 1) := by decide +kernel
theorem dMo_copy_1 : decode prog_9_method_6_code 1 = .ok (.istore_n 3, 1) := by decide +kernel
theorem dMo_copy_2 : decode prog_9_method_6_code 2 = .ok (.iload_n 3, 1) := by decide +kernel
theorem dMo_copy_3 : decode prog_9_method_6_code 3 = .ok (.aload_n 0, 1) := by decide +kernel
theorem dMo_copy_4 : decode prog_9_method_6_code 4 = .ok (.getfield 47, 3) := by decide +kernel
theorem dMo_copy_7 : decode prog_9_method_6_code 7 = .ok (.iload_n 2, 1) := by decide +kernel
theorem dMo_copy_8 : decode prog_9_method_6_code 8 = .ok (.iaload, 1) := by decide +kernel
theorem dMo_copy_9 : decode prog_9_method_6_code 9 = .ok (.if_icmp .ge 33, 3) := by decide +kernel
theorem dMo_copy_12 : decode prog_9_method_6_code 12 = .ok (.aload_n 0, 1) := by decide +kernel
theorem dMo_copy_13 : decode prog_9_method_6_code 13 = .ok (.getfield 44, 3) := by decide +kernel
theorem dMo_copy_16 : decode prog_9_method_6_code 16 = .ok (.sipush 340, 3) := by decide +kernel
theorem dMo_copy_19 : decode prog_9_method_6_code 19 = .ok (.iload_n 1, 1) := by decide +kernel
theorem dMo_copy_20 : decode prog_9_method_6_code 20 = .ok (.imul, 1) := by decide +kernel
theorem dMo_copy_21 : decode prog_9_method_6_code 21 = .ok (.iload_n 3, 1) := by decide +kernel
theorem dMo_copy_22 : decode prog_9_method_6_code 22 = .ok (.iadd, 1) := by decide +kernel
theorem dMo_copy_23 : decode prog_9_method_6_code 23 = .ok (.aload_n 0, 1) := by decide +kernel
theorem dMo_copy_24 : decode prog_9_method_6_code 24 = .ok (.getfield 44, 3) := by decide +kernel
theorem dMo_copy_27 : decode prog_9_method_6_code 27 = .ok (.sipush 340, 3) := by decide +kernel
theorem dMo_copy_30 : decode prog_9_method_6_code 30 = .ok (.iload_n 2, 1) := by decide +kernel
theorem dMo_copy_31 : decode prog_9_method_6_code 31 = .ok (.imul, 1) := by decide +kernel
theorem dMo_copy_32 : decode prog_9_method_6_code 32 = .ok (.iload_n 3, 1) := by decide +kernel
theorem dMo_copy_33 : decode prog_9_method_6_code 33 = .ok (.iadd, 1) := by decide +kernel
theorem dMo_copy_34 : decode prog_9_method_6_code 34 = .ok (.iaload, 1) := by decide +kernel
theorem dMo_copy_35 : decode prog_9_method_6_code 35 = .ok (.iastore, 1) := by decide +kernel
theorem dMo_copy_36 : decode prog_9_method_6_code 36 = .ok (.iinc 3 1, 3) := by decide +kernel
theorem dMo_copy_39 : decode prog_9_method_6_code 39 = .ok (.goto (-37), 3) := by decide +kernel
theorem dMo_copy_42 : decode prog_9_method_6_code 42 = .ok (.aload_n 0, 1) := by decide +kernel
theorem dMo_copy_43 : decode prog_9_method_6_code 43 = .ok (.getfield 47, 3) := by decide +kernel
theorem dMo_copy_46 : decode prog_9_method_6_code 46 = .ok (.iload_n 1, 1) := by decide +kernel
theorem dMo_copy_47 : decode prog_9_method_6_code 47 = .ok (.aload_n 0, 1) := by decide +kernel
theorem dMo_copy_48 : decode prog_9_method_6_code 48 = .ok (.getfield 47, 3) := by decide +kernel
theorem dMo_copy_51 : decode prog_9_method_6_code 51 = .ok (.iload_n 2, 1) := by decide +kernel
theorem dMo_copy_52 : decode prog_9_method_6_code 52 = .ok (.iaload, 1) := by decide +kernel
theorem dMo_copy_53 : decode prog_9_method_6_code 53 = .ok (.iastore, 1) := by decide +kernel
theorem dMo_copy_54 : decode prog_9_method_6_code 54 = .ok (.return_, 1) := by decide +kernel
abbrev qMo_copy (dC : Nat → ClassId) (dI : Nat → Nat → Nat) (dA : Nat → ClassId) (mo : Nat) (ft : Int) (lf : Int) (hg : Int) (kk : Int) (tx : Int) (pn : Int) (tk : Int) (fm : Int) (tO : Int) (tl : Int) (mI : Int → Int) (mT : Int → Int) (mS : Int → Int) (mC : Int → Int) (mL : Int → Int) (mB : Int → Int) (mF : Int → Int) (mU : Int → Int) (mX : Int → Int) (mP : Int → Int) (mK : Int → Int) (mD : Int → Int) (mZ : Int → Int) (i : Int) (j : Int) (N : Int) (A : Nat → Prop) : Array Value → State → Outcome → State → Prop := QV (dC, dI) vwCl (tyA dA) (fun (v_ : (Int → Int) × (Int → Int)) => MR v_.1 v_.2 i N ∧ others mD mZ v_.1 v_.2 i) (fun (v_ : (Int → Int) × (Int → Int)) => wMo dA mo ft lf hg kk tx pn tk fm tO tl mI mT mS mC mL mB mF mU mX mP mK v_.1 v_.2 []) A
abbrev rmMo_copy : Room := { frames := 0, cells := 0, slots := 0, locals := 0 }
set_option maxRecDepth 100000 in
set_option maxHeartbeats 1000000 in
theorem cMo_copy (l : Launch) (dC : Nat → ClassId) (dI : Nat → Nat → Nat) (dA : Nat → ClassId) (mo : Nat) (ft : Int) (lf : Int) (hg : Int) (kk : Int) (tx : Int) (pn : Int) (tk : Int) (fm : Int) (tO : Int) (tl : Int) (mI : Int → Int) (mT : Int → Int) (mS : Int → Int) (mC : Int → Int) (mL : Int → Int) (mB : Int → Int) (mF : Int → Int) (mU : Int → Int) (mX : Int → Int) (mP : Int → Int) (mK : Int → Int) (mD : Int → Int) (mZ : Int → Int) (i : Int) (j : Int) (N : Int) (hi : 0 ≤ i ∧ i ≤ 4 ∧ 0 ≤ j ∧ j ≤ 4 ∧ i ≠ j) (hM : MR mD mZ j N) (sz : Nat) : Met l yMo_copy wsMo_copy rmMo_copy (PC (dC, dI) vwCl (tyA dA) XN [.ref mo, .int (iI i), .int (iI j)] (wMo dA mo ft lf hg kk tx pn tk fm tO tl mI mT mS mC mL mB mF mU mX mP mK mD mZ []) sz) (qMo_copy dC dI dA mo ft lf hg kk tx pn tk fm tO tl mI mT mS mC mL mB mF mU mX mP mK mD mZ i j N (va_A (wMo dA mo ft lf hg kk tx pn tk fm tO tl mI mT mS mC mL mB mF mU mX mP mK mD mZ []) sz)) 0 0 (va_A (wMo dA mo ft lf hg kk tx pn tk fm tO tl mI mT mS mC mL mB mF mU mX mP mK mD mZ []) sz) := by
  refine met_of (cc := prog_9_method_6_code) (maxL := 4) (ret := none) (Qc := qMo_copy dC dI dA mo ft lf hg kk tx pn tk fm tO tl mI mT mS mC mL mB mF mU mX mP mK mD mZ i j N) XN_ok (by decide) rfl (Nat.le_of_ble_eq_true rfl) ?_
  intro p e s m below meth c ls A hx hb hr hml hown hts hlocks hnm hK hP hD hA hX hS hl
  have hl : lv_has ls 4 [(0, .ref mo), (1, .int (iI i)), (2, .int (iI j))] := hl
  have hown : s.vm.findClass "MacroReckonerModel" = some m.cls := hown
  obtain ⟨H, hH⟩ : ∃ H : Heap, H = s.heap := ⟨_, rfl⟩
  obtain ⟨locs, hlo⟩ : ∃ L : List Loc, L = [] := ⟨_, rfl⟩
  have hP : va_P (dC, dI) vwCl (wMo dA mo ft lf hg kk tx pn tk fm tO tl mI mT mS mC mL mB mF mU mX mP mK mD mZ []) H := hH ▸ hP
  have hS : va_S A s.heap H locs := by rw [hH, hlo]; exact hS
  suffices hgo : W p l e rmMo_copy s m [.ref mo, .int (iI i), .int (iI j)].toArray below meth c H locs 0 0 (MQ below (qMo_copy dC dI dA mo ft lf hg kk tx pn tk fm tO tl mI mT mS mC mL mB mF mU mX mP mK mD mZ i j N A) [.ref mo, .int (iI i), .int (iI j)].toArray s 0 0 A) (F0 m 0 ls []) by rw [hH, hlo] at hgo; exact hgo
  clear hH hlo
  have hz := hM.1.1
  refine lv_iconst (v := iI 0) hx hb dMo_copy_0 rfl ?_
  refine lv_istore_n (lv' := [(3, .int (iI 0)), (0, .ref mo), (1, .int (iI i)), (2, .int (iI j))]) hx hb dMo_copy_1 rfl hl (by decide) rfl (fun ls hl => ?_)
  have L2 : ∀ (n : Nat) (D9 : Int → Int) (n9 : Int) (H : Heap) (locs : List Loc) (ls : Array Slot), (0 ≤ n9 ∧ n9 ≤ mZ j) → (∀ t, 0 ≤ t → t < n9 → D9 (340 * i + t) = mD (340 * j + t)) → (∀ p, p < 340 * i ∨ 340 * i + 340 ≤ p → D9 p = mD p) → (mZ j - n9).toNat < n → va_P (dC, dI) vwCl (wMo dA mo ft lf hg kk tx pn tk fm tO tl mI mT mS mC mL mB mF mU mX mP mK D9 mZ []) H → va_D A (wMo dA mo ft lf hg kk tx pn tk fm tO tl mI mT mS mC mL mB mF mU mX mP mK D9 mZ []) → va_S A s.heap H locs → lv_has ls 4 [(3, .int (iI n9)), (0, .ref mo), (1, .int (iI i)), (2, .int (iI j))] → W p l e rmMo_copy s m [.ref mo, .int (iI i), .int (iI j)].toArray below meth c H locs 0 0 (MQ below (qMo_copy dC dI dA mo ft lf hg kk tx pn tk fm tO tl mI mT mS mC mL mB mF mU mX mP mK mD mZ i j N A) [.ref mo, .int (iI i), .int (iI j)].toArray s 0 0 A) (F0 m 2 ls []) := by
    intro n
    induction n with
    | zero => intro D9 n9 H locs ls hn9 h0 ho hn; omega
    | succ n ih =>
      intro D9 n9 H locs ls hn9 h0 ho hn hP hD hS hl
      have ih2 := ih
      refine lv_iload_n hx hb dMo_copy_2 rfl (lv_at hl 0 rfl) ?_
      refine lv_aload_n hx hb dMo_copy_3 rfl (lv_at hl 1 rfl) ?_
      refine va_get (D := (dC, dI)) (ci := 7) (v := .ref (mo + 13)) (C := "MacroReckonerModel") (T := TMo) (N := 23) hx hb hts inMo hown hK hP 0 rfl rfl 22 (by decide) (hts _ wt4_80) (fun _ h9 => h9) rfl dMo_copy_4 ?_
      refine lv_iload_n hx hb dMo_copy_7 rfl (lv_at hl 3 rfl) ?_
      refine iv_iald hx hb hK hP 13 0 rfl rfl (by decide) dMo_copy_8 (by omega) (by omega) ?_
      refine iv_icmp_ge (tgt := 42) hx hb dMo_copy_9 (by decide) ⟨by omega, by omega⟩ ⟨by omega, by omega⟩ (fun hc9 => ?_) (fun hc9 => ?_)
      · refine lv_aload_n hx hb dMo_copy_42 rfl (lv_at hl 1 rfl) ?_
        refine va_get (D := (dC, dI)) (ci := 7) (v := .ref (mo + 13)) (C := "MacroReckonerModel") (T := TMo) (N := 23) hx hb hts inMo hown hK hP 0 rfl rfl 22 (by decide) (hts _ wt4_80) (fun _ h9 => h9) rfl dMo_copy_43 ?_
        refine lv_iload_n hx hb dMo_copy_46 rfl (lv_at hl 2 rfl) ?_
        refine lv_aload_n hx hb dMo_copy_47 rfl (lv_at hl 1 rfl) ?_
        refine va_get (D := (dC, dI)) (ci := 7) (v := .ref (mo + 13)) (C := "MacroReckonerModel") (T := TMo) (N := 23) hx hb hts inMo hown hK hP 0 rfl rfl 22 (by decide) (hts _ wt4_80) (fun _ h9 => h9) rfl dMo_copy_48 ?_
        refine lv_iload_n hx hb dMo_copy_51 rfl (lv_at hl 3 rfl) ?_
        refine iv_iald hx hb hK hP 13 0 rfl rfl (by decide) dMo_copy_52 (by omega) (by omega) ?_
        refine iv_iast (v := mZ j) hx hb hK hP hD hS 13 0 rfl rfl (by decide) dMo_copy_53 (by omega) (by omega) (fun H locs hP hD hS => ?_)
        have hP : va_P (dC, dI) vwCl (wMo dA mo ft lf hg kk tx pn tk fm tO tl mI mT mS mC mL mB mF mU mX mP mK D9 (up mZ i (mZ j)) []) H := hP
        have hD : va_D A (wMo dA mo ft lf hg kk tx pn tk fm tO tl mI mT mS mC mL mB mF mU mX mP mK D9 (up mZ i (mZ j)) []) := hD
        exact rt_v hx hb hr hlocks hK hS dMo_copy_54 (D9, up mZ i (mZ j)) hP hD (show MR D9 (up mZ i (mZ j)) i N ∧ others mD mZ D9 (up mZ i (mZ j)) i from by exact ⟨copy_e hM (fun t x y => h0 t x (by omega)), ho, fun t x => up_n x⟩)
      · refine lv_aload_n hx hb dMo_copy_12 rfl (lv_at hl 1 rfl) ?_
        refine va_get (D := (dC, dI)) (ci := 7) (v := .ref (mo + 12)) (C := "MacroReckonerModel") (T := TMo) (N := 23) hx hb hts inMo hown hK hP 0 rfl rfl 21 (by decide) (hts _ wt4_79) (fun _ h9 => h9) rfl dMo_copy_13 ?_
        refine lv_sipush (v := iI 340) hx hb dMo_copy_16 (by decide) ?_
        refine lv_iload_n hx hb dMo_copy_19 rfl (lv_at hl 2 rfl) ?_
        refine iv_imul hx hb dMo_copy_20 ?_
        refine lv_iload_n hx hb dMo_copy_21 rfl (lv_at hl 0 rfl) ?_
        refine iv_iadd hx hb dMo_copy_22 ?_
        refine lv_aload_n hx hb dMo_copy_23 rfl (lv_at hl 1 rfl) ?_
        refine va_get (D := (dC, dI)) (ci := 7) (v := .ref (mo + 12)) (C := "MacroReckonerModel") (T := TMo) (N := 23) hx hb hts inMo hown hK hP 0 rfl rfl 21 (by decide) (hts _ wt4_79) (fun _ h9 => h9) rfl dMo_copy_24 ?_
        refine lv_sipush (v := iI 340) hx hb dMo_copy_27 (by decide) ?_
        refine lv_iload_n hx hb dMo_copy_30 rfl (lv_at hl 3 rfl) ?_
        refine iv_imul hx hb dMo_copy_31 ?_
        refine lv_iload_n hx hb dMo_copy_32 rfl (lv_at hl 0 rfl) ?_
        refine iv_iadd hx hb dMo_copy_33 ?_
        refine iv_iald hx hb hK hP 12 0 rfl rfl (by decide) dMo_copy_34 (by omega) (by omega) ?_
        refine iv_iast (v := D9 ((340 * j) + n9)) hx hb hK hP hD hS 12 0 rfl rfl (by decide) dMo_copy_35 (by omega) (by omega) (fun H locs hP hD hS => ?_)
        have hP : va_P (dC, dI) vwCl (wMo dA mo ft lf hg kk tx pn tk fm tO tl mI mT mS mC mL mB mF mU mX mP mK (up D9 ((340 * i) + n9) (D9 ((340 * j) + n9))) mZ []) H := hP
        have hD : va_D A (wMo dA mo ft lf hg kk tx pn tk fm tO tl mI mT mS mC mL mB mF mU mX mP mK (up D9 ((340 * i) + n9) (D9 ((340 * j) + n9))) mZ []) := hD
        refine lv_iinc (k := 0) (lv' := [(3, .int (iI (n9 + 1))), (0, .ref mo), (1, .int (iI i)), (2, .int (iI j))]) (v := iI (n9 + 1)) hx hb dMo_copy_36 hl rfl (iI_add _ _).symm (by decide) rfl (fun ls hl => ?_)
        refine lv_goto (tgt := 2) hx hb dMo_copy_39 (by decide) ?_
        exact ih2 (up D9 ((340 * i) + n9) (D9 ((340 * j) + n9))) (n9 + 1) H locs ls (by omega) (by intro t x y; by_cases z : t = n9; rw [z, up_s]; exact ho _ (by omega); rw [up_n (by omega)]; exact h0 t x (by omega)) (by intro p x; rw [up_n (by omega)]; exact ho p x) (by omega) hP hD hS (lv_sub hl [0, 1, 2, 3] rfl)
  exact L2 _ mD 0 H locs ls (by omega) (by intro t x y; omega) (by intro p _; rfl) (Nat.lt_succ_self _) hP hD hS (lv_sub hl [0, 1, 2, 3] rfl)

theorem dMo_compare_0 : decode prog_9_method_9_code 0 = .ok (.aload_n 0, 1) := by decide +kernel
theorem dMo_compare_1 : decode prog_9_method_9_code 1 = .ok (.getfield 47, 3) := by decide +kernel
theorem dMo_compare_4 : decode prog_9_method_9_code 4 = .ok (.iload_n 1, 1) := by decide +kernel
theorem dMo_compare_5 : decode prog_9_method_9_code 5 = .ok (.iaload, 1) := by decide +kernel
theorem dMo_compare_6 : decode prog_9_method_9_code 6 = .ok (.aload_n 0, 1) := by decide +kernel
theorem dMo_compare_7 : decode prog_9_method_9_code 7 = .ok (.getfield 47, 3) := by decide +kernel
theorem dMo_compare_10 : decode prog_9_method_9_code 10 = .ok (.iload_n 2, 1) := by decide +kernel
theorem dMo_compare_11 : decode prog_9_method_9_code 11 = .ok (.iaload, 1) := by decide +kernel
theorem dMo_compare_12 : decode prog_9_method_9_code 12 = .ok (.isub, 1) := by decide +kernel
theorem dMo_compare_13 : decode prog_9_method_9_code 13 = .ok (.istore_n 3, 1) := by decide +kernel
theorem dMo_compare_14 : decode prog_9_method_9_code 14 = .ok (.aload_n 0, 1) := by decide +kernel
theorem dMo_compare_15 : decode prog_9_method_9_code 15 = .ok (.getfield 47, 3) := by decide +kernel
theorem dMo_compare_18 : decode prog_9_method_9_code 18 = .ok (.iload_n 1, 1) := by decide +kernel
theorem dMo_compare_19 : decode prog_9_method_9_code 19 = .ok (.iaload, 1) := by decide +kernel
theorem dMo_compare_20 : decode prog_9_method_9_code 20 = .ok (.iconst 1, 1) := by decide +kernel
theorem dMo_compare_21 : decode prog_9_method_9_code 21 = .ok (.isub, 1) := by decide +kernel
theorem dMo_compare_22 : decode prog_9_method_9_code 22 = .ok (.istore 4, 2) := by decide +kernel
theorem dMo_compare_24 : decode prog_9_method_9_code 24 = .ok (.iload 4, 2) := by decide +kernel
theorem dMo_compare_26 : decode prog_9_method_9_code 26 = .ok (.ifCond .lt 41, 3) := by decide +kernel
theorem dMo_compare_29 : decode prog_9_method_9_code 29 = .ok (.iload_n 3, 1) := by decide +kernel
theorem dMo_compare_30 : decode prog_9_method_9_code 30 = .ok (.ifCond .ne 37, 3) := by decide +kernel
theorem dMo_compare_33 : decode prog_9_method_9_code 33 = .ok (.aload_n 0, 1) := by decide +kernel
theorem dMo_compare_34 : decode prog_9_method_9_code 34 = .ok (.getfield 44, 3) := by decide +kernel
theorem dMo_compare_37 : decode prog_9_method_9_code 37 = .ok (.sipush 340, 3) := by decide +kernel
theorem dMo_compare_40 : decode prog_9_method_9_code 40 = .ok (.iload_n 1, 1) := by decide +kernel
theorem dMo_compare_41 : decode prog_9_method_9_code 41 = .ok (.imul, 1) := by decide +kernel
theorem dMo_compare_42 : decode prog_9_method_9_code 42 = .ok (.iload 4, 2) := by decide +kernel
theorem dMo_compare_44 : decode prog_9_method_9_code 44 = .ok (.iadd, 1) := by decide +kernel
theorem dMo_compare_45 : decode prog_9_method_9_code 45 = .ok (.iaload, 1) := by decide +kernel
theorem dMo_compare_46 : decode prog_9_method_9_code 46 = .ok (.aload_n 0, 1) := by decide +kernel
theorem dMo_compare_47 : decode prog_9_method_9_code 47 = .ok (.getfield 44, 3) := by decide +kernel
theorem dMo_compare_50 : decode prog_9_method_9_code 50 = .ok (.sipush 340, 3) := by decide +kernel
theorem dMo_compare_53 : decode prog_9_method_9_code 53 = .ok (.iload_n 2, 1) := by decide +kernel
theorem dMo_compare_54 : decode prog_9_method_9_code 54 = .ok (.imul, 1) := by decide +kernel
theorem dMo_compare_55 : decode prog_9_method_9_code 55 = .ok (.iload 4, 2) := by decide +kernel
theorem dMo_compare_57 : decode prog_9_method_9_code 57 = .ok (.iadd, 1) := by decide +kernel
theorem dMo_compare_58 : decode prog_9_method_9_code 58 = .ok (.iaload, 1) := by decide +kernel
theorem dMo_compare_59 : decode prog_9_method_9_code 59 = .ok (.isub, 1) := by decide +kernel
theorem dMo_compare_60 : decode prog_9_method_9_code 60 = .ok (.istore_n 3, 1) := by decide +kernel
theorem dMo_compare_61 : decode prog_9_method_9_code 61 = .ok (.iinc 4 (-1), 3) := by decide +kernel
theorem dMo_compare_64 : decode prog_9_method_9_code 64 = .ok (.goto (-40), 3) := by decide +kernel
theorem dMo_compare_67 : decode prog_9_method_9_code 67 = .ok (.iload_n 3, 1) := by decide +kernel
theorem dMo_compare_68 : decode prog_9_method_9_code 68 = .ok (.ireturn, 1) := by decide +kernel
abbrev qMo_compare (dC : Nat → ClassId) (dI : Nat → Nat → Nat) (dA : Nat → ClassId) (mo : Nat) (ft : Int) (lf : Int) (hg : Int) (kk : Int) (tx : Int) (pn : Int) (tk : Int) (fm : Int) (tO : Int) (tl : Int) (mI : Int → Int) (mT : Int → Int) (mS : Int → Int) (mC : Int → Int) (mL : Int → Int) (mB : Int → Int) (mF : Int → Int) (mU : Int → Int) (mX : Int → Int) (mP : Int → Int) (mK : Int → Int) (mD : Int → Int) (mZ : Int → Int) (i : Int) (j : Int) (N : Int) (M : Int) (A : Nat → Prop) : Array Value → State → Outcome → State → Prop := QI (dC, dI) vwCl (tyA dA) (fun (r : Int) (v_ : Unit) => ((N < M ∧ r < 0) ∨ (N = M ∧ r = 0) ∨ (M < N ∧ 0 < r)) ∧ -400 ≤ r ∧ r ≤ 400) (fun (v_ : Unit) => wMo dA mo ft lf hg kk tx pn tk fm tO tl mI mT mS mC mL mB mF mU mX mP mK mD mZ []) A
abbrev rmMo_compare : Room := { frames := 0, cells := 0, slots := 0, locals := 0 }
set_option maxRecDepth 100000 in
set_option maxHeartbeats 1000000 in
theorem cMo_compare (l : Launch) (dC : Nat → ClassId) (dI : Nat → Nat → Nat) (dA : Nat → ClassId) (mo : Nat) (ft : Int) (lf : Int) (hg : Int) (kk : Int) (tx : Int) (pn : Int) (tk : Int) (fm : Int) (tO : Int) (tl : Int) (mI : Int → Int) (mT : Int → Int) (mS : Int → Int) (mC : Int → Int) (mL : Int → Int) (mB : Int → Int) (mF : Int → Int) (mU : Int → Int) (mX : Int → Int) (mP : Int → Int) (mK : Int → Int) (mD : Int → Int) (mZ : Int → Int) (i : Int) (j : Int) (N : Int) (M : Int) (hi : 0 ≤ i ∧ i ≤ 4 ∧ 0 ≤ j ∧ j ≤ 4) (hM : MR mD mZ i N) (hM2 : MR mD mZ j M) (sz : Nat) : Met l yMo_compare wsMo_compare rmMo_compare (PC (dC, dI) vwCl (tyA dA) XN [.ref mo, .int (iI i), .int (iI j)] (wMo dA mo ft lf hg kk tx pn tk fm tO tl mI mT mS mC mL mB mF mU mX mP mK mD mZ []) sz) (qMo_compare dC dI dA mo ft lf hg kk tx pn tk fm tO tl mI mT mS mC mL mB mF mU mX mP mK mD mZ i j N M (va_A (wMo dA mo ft lf hg kk tx pn tk fm tO tl mI mT mS mC mL mB mF mU mX mP mK mD mZ []) sz)) 0 0 (va_A (wMo dA mo ft lf hg kk tx pn tk fm tO tl mI mT mS mC mL mB mF mU mX mP mK mD mZ []) sz) := by
  refine met_of (cc := prog_9_method_9_code) (maxL := 5) (ret := (some .int)) (Qc := qMo_compare dC dI dA mo ft lf hg kk tx pn tk fm tO tl mI mT mS mC mL mB mF mU mX mP mK mD mZ i j N M) XN_ok (by decide) rfl (Nat.le_of_ble_eq_true rfl) ?_
  intro p e s m below meth c ls A hx hb hr hml hown hts hlocks hnm hK hP hD hA hX hS hl
  have hl : lv_has ls 5 [(0, .ref mo), (1, .int (iI i)), (2, .int (iI j))] := hl
  have hown : s.vm.findClass "MacroReckonerModel" = some m.cls := hown
  obtain ⟨H, hH⟩ : ∃ H : Heap, H = s.heap := ⟨_, rfl⟩
  obtain ⟨locs, hlo⟩ : ∃ L : List Loc, L = [] := ⟨_, rfl⟩
  have hP : va_P (dC, dI) vwCl (wMo dA mo ft lf hg kk tx pn tk fm tO tl mI mT mS mC mL mB mF mU mX mP mK mD mZ []) H := hH ▸ hP
  have hS : va_S A s.heap H locs := by rw [hH, hlo]; exact hS
  suffices hgo : W p l e rmMo_compare s m [.ref mo, .int (iI i), .int (iI j)].toArray below meth c H locs 0 0 (MQ below (qMo_compare dC dI dA mo ft lf hg kk tx pn tk fm tO tl mI mT mS mC mL mB mF mU mX mP mK mD mZ i j N M A) [.ref mo, .int (iI i), .int (iI j)].toArray s 0 0 A) (F0 m 0 ls []) by rw [hH, hlo] at hgo; exact hgo
  clear hH hlo
  have hz := hM.1.1
  have hz2 := hM2.1.1
  refine lv_aload_n hx hb dMo_compare_0 rfl (lv_at hl 0 rfl) ?_
  refine va_get (D := (dC, dI)) (ci := 7) (v := .ref (mo + 13)) (C := "MacroReckonerModel") (T := TMo) (N := 23) hx hb hts inMo hown hK hP 0 rfl rfl 22 (by decide) (hts _ wt4_80) (fun _ h9 => h9) rfl dMo_compare_1 ?_
  refine lv_iload_n hx hb dMo_compare_4 rfl (lv_at hl 1 rfl) ?_
  refine iv_iald hx hb hK hP 13 0 rfl rfl (by decide) dMo_compare_5 (by omega) (by omega) ?_
  refine lv_aload_n hx hb dMo_compare_6 rfl (lv_at hl 0 rfl) ?_
  refine va_get (D := (dC, dI)) (ci := 7) (v := .ref (mo + 13)) (C := "MacroReckonerModel") (T := TMo) (N := 23) hx hb hts inMo hown hK hP 0 rfl rfl 22 (by decide) (hts _ wt4_80) (fun _ h9 => h9) rfl dMo_compare_7 ?_
  refine lv_iload_n hx hb dMo_compare_10 rfl (lv_at hl 2 rfl) ?_
  refine iv_iald hx hb hK hP 13 0 rfl rfl (by decide) dMo_compare_11 (by omega) (by omega) ?_
  refine iv_isub hx hb dMo_compare_12 ?_
  refine lv_istore_n (lv' := [(3, .int (iI ((mZ i) - (mZ j)))), (0, .ref mo), (1, .int (iI i)), (2, .int (iI j))]) hx hb dMo_compare_13 rfl hl (by decide) rfl (fun ls hl => ?_)
  refine lv_aload_n hx hb dMo_compare_14 rfl (lv_at hl 1 rfl) ?_
  refine va_get (D := (dC, dI)) (ci := 7) (v := .ref (mo + 13)) (C := "MacroReckonerModel") (T := TMo) (N := 23) hx hb hts inMo hown hK hP 0 rfl rfl 22 (by decide) (hts _ wt4_80) (fun _ h9 => h9) rfl dMo_compare_15 ?_
  refine lv_iload_n hx hb dMo_compare_18 rfl (lv_at hl 2 rfl) ?_
  refine iv_iald hx hb hK hP 13 0 rfl rfl (by decide) dMo_compare_19 (by omega) (by omega) ?_
  refine lv_iconst (v := iI 1) hx hb dMo_compare_20 rfl ?_
  refine iv_isub hx hb dMo_compare_21 ?_
  refine lv_istore (lv' := [(4, .int (iI ((mZ i) - 1))), (3, .int (iI ((mZ i) - (mZ j)))), (0, .ref mo), (1, .int (iI i)), (2, .int (iI j))]) hx hb dMo_compare_22 hl (by decide) rfl (fun ls hl => ?_)
  have L24 : ∀ (n : Nat) (n9 : Int) (d : Int) (H : Heap) (locs : List Loc) (ls : Array Slot), (-1 ≤ d ∧ d < mZ i) → (-400 ≤ n9 ∧ n9 ≤ 400) → ((mZ i ≠ mZ j ∧ n9 = mZ i - mZ j) ∨ (mZ i = mZ j ∧ n9 = 0 ∧ ∀ t, d < t → t < mZ i → mD (340 * i + t) = mD (340 * j + t)) ∨ (N < M ∧ n9 < 0) ∨ (M < N ∧ 0 < n9)) → (d + 1).toNat < n → va_P (dC, dI) vwCl (wMo dA mo ft lf hg kk tx pn tk fm tO tl mI mT mS mC mL mB mF mU mX mP mK mD mZ []) H → va_D A (wMo dA mo ft lf hg kk tx pn tk fm tO tl mI mT mS mC mL mB mF mU mX mP mK mD mZ []) → va_S A s.heap H locs → lv_has ls 5 [(4, .int (iI d)), (3, .int (iI n9)), (0, .ref mo), (1, .int (iI i)), (2, .int (iI j))] → W p l e rmMo_compare s m [.ref mo, .int (iI i), .int (iI j)].toArray below meth c H locs 0 0 (MQ below (qMo_compare dC dI dA mo ft lf hg kk tx pn tk fm tO tl mI mT mS mC mL mB mF mU mX mP mK mD mZ i j N M A) [.ref mo, .int (iI i), .int (iI j)].toArray s 0 0 A) (F0 m 24 ls []) := by
    intro n
    induction n with
    | zero => intro n9 d H locs ls hd hn9 hJ hn; omega
    | succ n ih =>
      intro n9 d H locs ls hd hn9 hJ hn hP hD hS hl
      have ih24 := ih
      refine lv_iload hx hb dMo_compare_24 (lv_at hl 0 rfl) ?_
      refine iv_if_lt (tgt := 67) hx hb dMo_compare_26 (by decide) ⟨by omega, by omega⟩ (fun hc26 => ?_) (fun hc26 => ?_)
      · refine lv_iload_n hx hb dMo_compare_67 rfl (lv_at hl 1 rfl) ?_
        exact rt_i hx hb hr hlocks hK hS dMo_compare_68 () hP hD (show ((N < M ∧ n9 < 0) ∨ (N = M ∧ n9 = 0) ∨ (M < N ∧ 0 < n9)) ∧ -400 ≤ n9 ∧ n9 ≤ 400 from by refine ⟨?_, hn9⟩; rcases hJ with ⟨z1, z2⟩ | ⟨z1, z2, z3⟩ | ⟨z1, z2⟩ | ⟨z1, z2⟩; rcases (show mZ i < mZ j ∨ mZ j < mZ i by omega) with y | y; exact Or.inl ⟨M_lt hM hM2 y, by omega⟩; exact Or.inr (Or.inr ⟨M_lt hM2 hM y, by omega⟩); exact Or.inr (Or.inl ⟨M_eq hM hM2 z1 (fun t x w => z3 t (by omega) w), z2⟩); omega; omega)
      · refine lv_iload_n hx hb dMo_compare_29 rfl (lv_at hl 1 rfl) ?_
        refine iv_if_ne (tgt := 67) hx hb dMo_compare_30 (by decide) ⟨by omega, by omega⟩ (fun hc30 => ?_) (fun hc30 => ?_)
        · refine lv_iload_n hx hb dMo_compare_67 rfl (lv_at hl 1 rfl) ?_
          exact rt_i hx hb hr hlocks hK hS dMo_compare_68 () hP hD (show ((N < M ∧ n9 < 0) ∨ (N = M ∧ n9 = 0) ∨ (M < N ∧ 0 < n9)) ∧ -400 ≤ n9 ∧ n9 ≤ 400 from by refine ⟨?_, hn9⟩; rcases hJ with ⟨z1, z2⟩ | ⟨z1, z2, z3⟩ | ⟨z1, z2⟩ | ⟨z1, z2⟩; rcases (show mZ i < mZ j ∨ mZ j < mZ i by omega) with y | y; exact Or.inl ⟨M_lt hM hM2 y, by omega⟩; exact Or.inr (Or.inr ⟨M_lt hM2 hM y, by omega⟩); exact Or.inr (Or.inl ⟨M_eq hM hM2 z1 (fun t x w => z3 t (by omega) w), z2⟩); omega; omega)
        · have hdi := hM.1.2.1 d (by omega) (by omega)
          have hdj := hM2.1.2.1 d (by omega) (by omega)
          refine lv_aload_n hx hb dMo_compare_33 rfl (lv_at hl 2 rfl) ?_
          refine va_get (D := (dC, dI)) (ci := 7) (v := .ref (mo + 12)) (C := "MacroReckonerModel") (T := TMo) (N := 23) hx hb hts inMo hown hK hP 0 rfl rfl 21 (by decide) (hts _ wt4_79) (fun _ h9 => h9) rfl dMo_compare_34 ?_
          refine lv_sipush (v := iI 340) hx hb dMo_compare_37 (by decide) ?_
          refine lv_iload_n hx hb dMo_compare_40 rfl (lv_at hl 3 rfl) ?_
          refine iv_imul hx hb dMo_compare_41 ?_
          refine lv_iload hx hb dMo_compare_42 (lv_at hl 0 rfl) ?_
          refine iv_iadd hx hb dMo_compare_44 ?_
          refine iv_iald hx hb hK hP 12 0 rfl rfl (by decide) dMo_compare_45 (by omega) (by omega) ?_
          refine lv_aload_n hx hb dMo_compare_46 rfl (lv_at hl 2 rfl) ?_
          refine va_get (D := (dC, dI)) (ci := 7) (v := .ref (mo + 12)) (C := "MacroReckonerModel") (T := TMo) (N := 23) hx hb hts inMo hown hK hP 0 rfl rfl 21 (by decide) (hts _ wt4_79) (fun _ h9 => h9) rfl dMo_compare_47 ?_
          refine lv_sipush (v := iI 340) hx hb dMo_compare_50 (by decide) ?_
          refine lv_iload_n hx hb dMo_compare_53 rfl (lv_at hl 4 rfl) ?_
          refine iv_imul hx hb dMo_compare_54 ?_
          refine lv_iload hx hb dMo_compare_55 (lv_at hl 0 rfl) ?_
          refine iv_iadd hx hb dMo_compare_57 ?_
          refine iv_iald hx hb hK hP 12 0 rfl rfl (by decide) dMo_compare_58 (by omega) (by omega) ?_
          refine iv_isub hx hb dMo_compare_59 ?_
          refine lv_istore_n (lv' := [(3, .int (iI ((mD ((340 * i) + d)) - (mD ((340 * j) + d))))), (4, .int (iI d)), (0, .ref mo), (1, .int (iI i)), (2, .int (iI j))]) hx hb dMo_compare_60 rfl hl (by decide) rfl (fun ls hl => ?_)
          refine lv_iinc (k := 1) (lv' := [(4, .int (iI (d - 1))), (3, .int (iI ((mD ((340 * i) + d)) - (mD ((340 * j) + d))))), (0, .ref mo), (1, .int (iI i)), (2, .int (iI j))]) (v := iI (d - 1)) hx hb dMo_compare_61 hl rfl (by rw [show (Int32.ofInt (-1)) = iI (-1) from rfl, ← iI_add]; congr 1) (by decide) rfl (fun ls hl => ?_)
          refine lv_goto (tgt := 24) hx hb dMo_compare_64 (by decide) ?_
          exact ih24 ((mD ((340 * i) + d)) - (mD ((340 * j) + d))) (d - 1) H locs ls (by omega) (by omega) (by rcases hJ with ⟨z1, z2⟩ | ⟨z1, z2, z3⟩ | ⟨z1, z2⟩ | ⟨z1, z2⟩; omega; rcases (show mD (340 * i + d) < mD (340 * j + d) ∨ mD (340 * i + d) = mD (340 * j + d) ∨ mD (340 * j + d) < mD (340 * i + d) by omega) with y | y | y; exact Or.inr (Or.inr (Or.inl ⟨M_cmp hM hM2 z1 hc26 hd.2 z3 y, by omega⟩)); exact Or.inr (Or.inl ⟨z1, by omega, fun t x w => by rcases (show d < t ∨ t = d by omega) with v | v; exact z3 t v w; rw [v]; exact y⟩); exact Or.inr (Or.inr (Or.inr ⟨M_cmp hM2 hM z1.symm hc26 (by omega) (fun t x w => (z3 t x (by omega)).symm) y, by omega⟩)); omega; omega) (by omega) hP hD hS (lv_sub hl [0, 1, 2, 3, 4] rfl)
  exact L24 _ ((mZ i) - (mZ j)) ((mZ i) - 1) H locs ls (by omega) (by omega) (by by_cases z : mZ i = mZ j; exact Or.inr (Or.inl ⟨z, by omega, fun t x y => by omega⟩); exact Or.inl ⟨z, rfl⟩) (Nat.lt_succ_self _) hP hD hS (lv_sub hl [0, 1, 2, 3, 4] rfl)
