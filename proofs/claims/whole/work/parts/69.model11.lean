theorem dMo_small_0 : decode prog_9_method_24_code 0 = .ok (.aload_n 0, 1) := by decide +kernel
theorem dMo_small_1 : decode prog_9_method_24_code 1 = .ok (.getfield 20, 3) := by decide +kernel
theorem dMo_small_4 : decode prog_9_method_24_code 4 = .ok (.iload_n 1, 1) := by decide +kernel
theorem dMo_small_5 : decode prog_9_method_24_code 5 = .ok (.iaload, 1) := by decide +kernel
theorem dMo_small_6 : decode prog_9_method_24_code 6 = .ok (.ifCond .gt 13, 3) := by decide +kernel
theorem dMo_small_9 : decode prog_9_method_24_code 9 = .ok (.aload_n 0, 1) := by decide +kernel
theorem dMo_small_10 : decode prog_9_method_24_code 10 = .ok (.getfield 23, 3) := by decide +kernel
theorem dMo_small_13 : decode prog_9_method_24_code 13 = .ok (.iload_n 1, 1) := by decide +kernel
theorem dMo_small_14 : decode prog_9_method_24_code 14 = .ok (.iaload, 1) := by decide +kernel
theorem dMo_small_15 : decode prog_9_method_24_code 15 = .ok (.iconst 2, 1) := by decide +kernel
theorem dMo_small_16 : decode prog_9_method_24_code 16 = .ok (.if_icmp .le 6, 3) := by decide +kernel
theorem dMo_small_19 : decode prog_9_method_24_code 19 = .ok (.bipush 100, 2) := by decide +kernel
theorem dMo_small_21 : decode prog_9_method_24_code 21 = .ok (.ireturn, 1) := by decide +kernel
theorem dMo_small_22 : decode prog_9_method_24_code 22 = .ok (.iconst 0, 1) := by decide +kernel
theorem dMo_small_23 : decode prog_9_method_24_code 23 = .ok (.istore_n 2, 1) := by decide +kernel
theorem dMo_small_24 : decode prog_9_method_24_code 24 = .ok (.aload_n 0, 1) := by decide +kernel
theorem dMo_small_25 : decode prog_9_method_24_code 25 = .ok (.getfield 23, 3) := by decide +kernel
theorem dMo_small_28 : decode prog_9_method_24_code 28 = .ok (.iload_n 1, 1) := by decide +kernel
theorem dMo_small_29 : decode prog_9_method_24_code 29 = .ok (.iaload, 1) := by decide +kernel
theorem dMo_small_30 : decode prog_9_method_24_code 30 = .ok (.iconst 1, 1) := by decide +kernel
theorem dMo_small_31 : decode prog_9_method_24_code 31 = .ok (.isub, 1) := by decide +kernel
theorem dMo_small_32 : decode prog_9_method_24_code 32 = .ok (.istore_n 3, 1) := by decide +kernel
theorem dMo_small_33 : decode prog_9_method_24_code 33 = .ok (.iload_n 3, 1) := by decide +kernel
theorem dMo_small_34 : decode prog_9_method_24_code 34 = .ok (.ifCond .lt 26, 3) := by decide +kernel
theorem dMo_small_37 : decode prog_9_method_24_code 37 = .ok (.bipush 10, 2) := by decide +kernel
theorem dMo_small_39 : decode prog_9_method_24_code 39 = .ok (.iload_n 2, 1) := by decide +kernel
theorem dMo_small_40 : decode prog_9_method_24_code 40 = .ok (.imul, 1) := by decide +kernel
theorem dMo_small_41 : decode prog_9_method_24_code 41 = .ok (.aload_n 0, 1) := by decide +kernel
theorem dMo_small_42 : decode prog_9_method_24_code 42 = .ok (.getfield 26, 3) := by decide +kernel
theorem dMo_small_45 : decode prog_9_method_24_code 45 = .ok (.bipush 60, 2) := by decide +kernel
theorem dMo_small_47 : decode prog_9_method_24_code 47 = .ok (.iload_n 1, 1) := by decide +kernel
theorem dMo_small_48 : decode prog_9_method_24_code 48 = .ok (.imul, 1) := by decide +kernel
theorem dMo_small_49 : decode prog_9_method_24_code 49 = .ok (.iload_n 3, 1) := by decide +kernel
theorem dMo_small_50 : decode prog_9_method_24_code 50 = .ok (.iadd, 1) := by decide +kernel
theorem dMo_small_51 : decode prog_9_method_24_code 51 = .ok (.iaload, 1) := by decide +kernel
theorem dMo_small_52 : decode prog_9_method_24_code 52 = .ok (.iadd, 1) := by decide +kernel
theorem dMo_small_53 : decode prog_9_method_24_code 53 = .ok (.istore_n 2, 1) := by decide +kernel
theorem dMo_small_54 : decode prog_9_method_24_code 54 = .ok (.iinc 3 (-1), 3) := by decide +kernel
theorem dMo_small_57 : decode prog_9_method_24_code 57 = .ok (.goto (-24), 3) := by decide +kernel
theorem dMo_small_60 : decode prog_9_method_24_code 60 = .ok (.aload_n 0, 1) := by decide +kernel
theorem dMo_small_61 : decode prog_9_method_24_code 61 = .ok (.getfield 17, 3) := by decide +kernel
theorem dMo_small_64 : decode prog_9_method_24_code 64 = .ok (.iload_n 1, 1) := by decide +kernel
theorem dMo_small_65 : decode prog_9_method_24_code 65 = .ok (.iaload, 1) := by decide +kernel
theorem dMo_small_66 : decode prog_9_method_24_code 66 = .ok (.iload_n 2, 1) := by decide +kernel
theorem dMo_small_67 : decode prog_9_method_24_code 67 = .ok (.imul, 1) := by decide +kernel
theorem dMo_small_68 : decode prog_9_method_24_code 68 = .ok (.ireturn, 1) := by decide +kernel
abbrev qMo_small (dC : Nat → ClassId) (dI : Nat → Nat → Nat) (dA : Nat → ClassId) (mo : Nat) (ft : Int) (lf : Int) (hg : Int) (kk : Int) (tx : Int) (pn : Int) (tk : Int) (fm : Int) (tO : Int) (tl : Int) (mI : Int → Int) (mT : Int → Int) (mS : Int → Int) (mC : Int → Int) (mL : Int → Int) (mB : Int → Int) (mF : Int → Int) (mU : Int → Int) (mX : Int → Int) (mP : Int → Int) (mK : Int → Int) (mD : Int → Int) (mZ : Int → Int) (x : Int) (xa : Th) (A : Nat → Prop) : Array Value → State → Outcome → State → Prop := QI (dC, dI) vwCl (tyA dA) (fun (r : Int) (v_ : Unit) => (r = 100 ∧ (0 < xa.sc ∨ 100 ≤ ab xa.v)) ∨ (xa.sc = 0 ∧ ab xa.v < 100 ∧ r = xa.v)) (fun (v_ : Unit) => wMo dA mo ft lf hg kk tx pn tk fm tO tl mI mT mS mC mL mB mF mU mX mP mK mD mZ []) A
abbrev rmMo_small : Room := { frames := 0, cells := 0, slots := 0, locals := 0 }
set_option maxRecDepth 100000 in
set_option maxHeartbeats 1000000 in
theorem cMo_small (l : Launch) (dC : Nat → ClassId) (dI : Nat → Nat → Nat) (dA : Nat → ClassId) (mo : Nat) (ft : Int) (lf : Int) (hg : Int) (kk : Int) (tx : Int) (pn : Int) (tk : Int) (fm : Int) (tO : Int) (tl : Int) (mI : Int → Int) (mT : Int → Int) (mS : Int → Int) (mC : Int → Int) (mL : Int → Int) (mB : Int → Int) (mF : Int → Int) (mU : Int → Int) (mX : Int → Int) (mP : Int → Int) (mK : Int → Int) (mD : Int → Int) (mZ : Int → Int) (x : Int) (xa : Th) (hxy : 0 ≤ x ∧ x ≤ 46) (hTa : MT mT mS mC mL mB x xa) (hta : xa.t = 0) (sz : Nat) : Met l yMo_small wsMo_small rmMo_small (PC (dC, dI) vwCl (tyA dA) XN [.ref mo, .int (iI x)] (wMo dA mo ft lf hg kk tx pn tk fm tO tl mI mT mS mC mL mB mF mU mX mP mK mD mZ []) sz) (qMo_small dC dI dA mo ft lf hg kk tx pn tk fm tO tl mI mT mS mC mL mB mF mU mX mP mK mD mZ x xa (va_A (wMo dA mo ft lf hg kk tx pn tk fm tO tl mI mT mS mC mL mB mF mU mX mP mK mD mZ []) sz)) 0 0 (va_A (wMo dA mo ft lf hg kk tx pn tk fm tO tl mI mT mS mC mL mB mF mU mX mP mK mD mZ []) sz) := by
  refine met_of (cc := prog_9_method_24_code) (maxL := 4) (ret := (some .int)) (Qc := qMo_small dC dI dA mo ft lf hg kk tx pn tk fm tO tl mI mT mS mC mL mB mF mU mX mP mK mD mZ x xa) XN_ok (by decide) rfl (Nat.le_of_ble_eq_true rfl) ?_
  intro p e s m below meth c ls A hx hb hr hml hown hts hlocks hnm hK hP hD hA hX hS hl
  have hl : lv_has ls 4 [(0, .ref mo), (1, .int (iI x))] := hl
  have hown : s.vm.findClass "MacroReckonerModel" = some m.cls := hown
  obtain ⟨H, hH⟩ : ∃ H : Heap, H = s.heap := ⟨_, rfl⟩
  obtain ⟨locs, hlo⟩ : ∃ L : List Loc, L = [] := ⟨_, rfl⟩
  have hP : va_P (dC, dI) vwCl (wMo dA mo ft lf hg kk tx pn tk fm tO tl mI mT mS mC mL mB mF mU mX mP mK mD mZ []) H := hH ▸ hP
  have hS : va_S A s.heap H locs := by rw [hH, hlo]; exact hS
  suffices hgo : W p l e rmMo_small s m [.ref mo, .int (iI x)].toArray below meth c H locs 0 0 (MQ below (qMo_small dC dI dA mo ft lf hg kk tx pn tk fm tO tl mI mT mS mC mL mB mF mU mX mP mK mD mZ x xa A) [.ref mo, .int (iI x)].toArray s 0 0 A) (F0 m 0 ls []) by rw [hH, hlo] at hgo; exact hgo
  clear hH hlo
  obtain ⟨hCx, hscx, hTx, hSx⟩ := MT_n hTa hta
  have hbx := TD_bd hTx
  have hlx := (MT_b hTa).2.2.2.2
  have hdl := T_dl hTa hta
  refine lv_aload_n hx hb dMo_small_0 rfl (lv_at hl 0 rfl) ?_
  refine va_get (D := (dC, dI)) (ci := 7) (v := .ref (mo + 4)) (C := "MacroReckonerModel") (T := TMo) (N := 23) hx hb hts inMo hown hK hP 0 rfl rfl 5 (by decide) (hts _ wt4_63) (fun _ h9 => h9) rfl dMo_small_1 ?_
  refine lv_iload_n hx hb dMo_small_4 rfl (lv_at hl 1 rfl) ?_
  refine iv_iald hx hb hK hP 4 0 rfl rfl (by decide) dMo_small_5 (by omega) (by omega) ?_
  refine iv_if_gt (tgt := 19) hx hb dMo_small_6 (by decide) ⟨by omega, by omega⟩ (fun hc6 => ?_) (fun hc6 => ?_)
  · refine lv_bipush (v := iI 100) hx hb dMo_small_19 (by decide) ?_
    exact rt_i hx hb hr hlocks hK hS dMo_small_21 () hP hD (show (100 = 100 ∧ (0 < xa.sc ∨ 100 ≤ ab xa.v)) ∨ (xa.sc = 0 ∧ ab xa.v < 100 ∧ 100 = xa.v) from by refine Or.inl ⟨rfl, ?_⟩; first | exact Or.inl (by omega) | exact Or.inr (by have h := DL_ge hdl (show (0 : Int) ≤ 2 by decide) (by omega); rw [show PW 10 2 = 100 from rfl] at h; exact h))
  · refine lv_aload_n hx hb dMo_small_9 rfl (lv_at hl 0 rfl) ?_
    refine va_get (D := (dC, dI)) (ci := 7) (v := .ref (mo + 5)) (C := "MacroReckonerModel") (T := TMo) (N := 23) hx hb hts inMo hown hK hP 0 rfl rfl 6 (by decide) (hts _ wt4_64) (fun _ h9 => h9) rfl dMo_small_10 ?_
    refine lv_iload_n hx hb dMo_small_13 rfl (lv_at hl 1 rfl) ?_
    refine iv_iald hx hb hK hP 5 0 rfl rfl (by decide) dMo_small_14 (by omega) (by omega) ?_
    refine lv_iconst (v := iI 2) hx hb dMo_small_15 rfl ?_
    refine iv_icmp_le (tgt := 22) hx hb dMo_small_16 (by decide) ⟨by omega, by omega⟩ ⟨by decide, by decide⟩ (fun hc16 => ?_) (fun hc16 => ?_)
    · refine lv_iconst (v := iI 0) hx hb dMo_small_22 rfl ?_
      refine lv_istore_n (lv' := [(2, .int (iI 0)), (0, .ref mo), (1, .int (iI x))]) hx hb dMo_small_23 rfl hl (by decide) rfl (fun ls hl => ?_)
      refine lv_aload_n hx hb dMo_small_24 rfl (lv_at hl 1 rfl) ?_
      refine va_get (D := (dC, dI)) (ci := 7) (v := .ref (mo + 5)) (C := "MacroReckonerModel") (T := TMo) (N := 23) hx hb hts inMo hown hK hP 0 rfl rfl 6 (by decide) (hts _ wt4_64) (fun _ h9 => h9) rfl dMo_small_25 ?_
      refine lv_iload_n hx hb dMo_small_28 rfl (lv_at hl 2 rfl) ?_
      refine iv_iald hx hb hK hP 5 0 rfl rfl (by decide) dMo_small_29 (by omega) (by omega) ?_
      refine lv_iconst (v := iI 1) hx hb dMo_small_30 rfl ?_
      refine iv_isub hx hb dMo_small_31 ?_
      refine lv_istore_n (lv' := [(3, .int (iI ((mL x) - 1))), (2, .int (iI 0)), (0, .ref mo), (1, .int (iI x))]) hx hb dMo_small_32 rfl hl (by decide) rfl (fun ls hl => ?_)
      have L33 : ∀ (n : Nat) (vv : Int) (j : Int) (H : Heap) (locs : List Loc) (ls : Array Slot), (-1 ≤ j ∧ j < mL x) → (vv = ab xa.v / PW 10 (j + 1)) → (j + 1).toNat < n → va_P (dC, dI) vwCl (wMo dA mo ft lf hg kk tx pn tk fm tO tl mI mT mS mC mL mB mF mU mX mP mK mD mZ []) H → va_D A (wMo dA mo ft lf hg kk tx pn tk fm tO tl mI mT mS mC mL mB mF mU mX mP mK mD mZ []) → va_S A s.heap H locs → lv_has ls 4 [(3, .int (iI j)), (2, .int (iI vv)), (0, .ref mo), (1, .int (iI x))] → W p l e rmMo_small s m [.ref mo, .int (iI x)].toArray below meth c H locs 0 0 (MQ below (qMo_small dC dI dA mo ft lf hg kk tx pn tk fm tO tl mI mT mS mC mL mB mF mU mX mP mK mD mZ x xa A) [.ref mo, .int (iI x)].toArray s 0 0 A) (F0 m 33 ls []) := by
        intro n
        induction n with
        | zero => intro vv j H locs ls hj hv hn; omega
        | succ n ih =>
          intro vv j H locs ls hj hv hn hP hD hS hl
          have hvb := div_le (p := j + 1) hbx.1
          have hv99 : ab xa.v < 100 := by have h := DL_lt hdl (show mL x ≤ 2 by omega); rw [show PW 10 2 = 100 from rfl] at h; exact h
          have ih33 := ih
          refine lv_iload_n hx hb dMo_small_33 rfl (lv_at hl 0 rfl) ?_
          refine iv_if_lt (tgt := 60) hx hb dMo_small_34 (by decide) ⟨by omega, by omega⟩ (fun hc34 => ?_) (fun hc34 => ?_)
          · refine lv_aload_n hx hb dMo_small_60 rfl (lv_at hl 2 rfl) ?_
            refine va_get (D := (dC, dI)) (ci := 7) (v := .ref (mo + 3)) (C := "MacroReckonerModel") (T := TMo) (N := 23) hx hb hts inMo hown hK hP 0 rfl rfl 4 (by decide) (hts _ wt4_62) (fun _ h9 => h9) rfl dMo_small_61 ?_
            refine lv_iload_n hx hb dMo_small_64 rfl (lv_at hl 3 rfl) ?_
            refine iv_iald hx hb hK hP 3 0 rfl rfl (by decide) dMo_small_65 (by omega) (by omega) ?_
            refine lv_iload_n hx hb dMo_small_66 rfl (lv_at hl 1 rfl) ?_
            refine iv_imul hx hb dMo_small_67 ?_
            exact rt_i hx hb hr hlocks hK hS dMo_small_68 () hP hD (show (((mS x) * vv) = 100 ∧ (0 < xa.sc ∨ 100 ≤ ab xa.v)) ∨ (xa.sc = 0 ∧ ab xa.v < 100 ∧ ((mS x) * vv) = xa.v) from by refine Or.inr ⟨by omega, hv99, ?_⟩; rw [hv, show j + 1 = 0 by omega, PW_0, Int.ediv_one]; exact sgs_ab hSx)
          · have hd9 := T_dig hTx (show 0 ≤ j by omega) (by omega)
            have hdb := hTx.2.1 j (by omega) (by omega)
            have hdd := div_le (p := j) hbx.1
            refine lv_bipush (v := iI 10) hx hb dMo_small_37 (by decide) ?_
            refine lv_iload_n hx hb dMo_small_39 rfl (lv_at hl 1 rfl) ?_
            refine iv_imul hx hb dMo_small_40 ?_
            refine lv_aload_n hx hb dMo_small_41 rfl (lv_at hl 2 rfl) ?_
            refine va_get (D := (dC, dI)) (ci := 7) (v := .ref (mo + 6)) (C := "MacroReckonerModel") (T := TMo) (N := 23) hx hb hts inMo hown hK hP 0 rfl rfl 7 (by decide) (hts _ wt4_65) (fun _ h9 => h9) rfl dMo_small_42 ?_
            refine lv_bipush (v := iI 60) hx hb dMo_small_45 (by decide) ?_
            refine lv_iload_n hx hb dMo_small_47 rfl (lv_at hl 3 rfl) ?_
            refine iv_imul hx hb dMo_small_48 ?_
            refine lv_iload_n hx hb dMo_small_49 rfl (lv_at hl 0 rfl) ?_
            refine iv_iadd hx hb dMo_small_50 ?_
            refine iv_iald hx hb hK hP 6 0 rfl rfl (by decide) dMo_small_51 (by omega) (by omega) ?_
            refine iv_iadd hx hb dMo_small_52 ?_
            refine lv_istore_n (lv' := [(2, .int (iI ((10 * vv) + (mB ((60 * x) + j))))), (3, .int (iI j)), (0, .ref mo), (1, .int (iI x))]) hx hb dMo_small_53 rfl hl (by decide) rfl (fun ls hl => ?_)
            refine lv_iinc (k := 1) (lv' := [(3, .int (iI (j - 1))), (2, .int (iI ((10 * vv) + (mB ((60 * x) + j))))), (0, .ref mo), (1, .int (iI x))]) (v := iI (j - 1)) hx hb dMo_small_54 hl rfl (by rw [show (Int32.ofInt (-1)) = iI (-1) from rfl, ← iI_add]; congr 1) (by decide) rfl (fun ls hl => ?_)
            refine lv_goto (tgt := 33) hx hb dMo_small_57 (by decide) ?_
            exact ih33 ((10 * vv) + (mB ((60 * x) + j))) (j - 1) H locs ls (by omega) (by rw [show j - 1 + 1 = j by omega, hd9, hv]; omega) (by omega) hP hD hS (lv_sub hl [0, 1, 2, 3] rfl)
      exact L33 _ 0 ((mL x) - 1) H locs ls (by omega) (by rw [show mL x - 1 + 1 = mL x by omega]; exact (Int.ediv_eq_zero_of_lt hbx.1 hdl.2.1).symm) (Nat.lt_succ_self _) hP hD hS (lv_sub hl [0, 1, 2, 3] rfl)
    · refine lv_bipush (v := iI 100) hx hb dMo_small_19 (by decide) ?_
      exact rt_i hx hb hr hlocks hK hS dMo_small_21 () hP hD (show (100 = 100 ∧ (0 < xa.sc ∨ 100 ≤ ab xa.v)) ∨ (xa.sc = 0 ∧ ab xa.v < 100 ∧ 100 = xa.v) from by refine Or.inl ⟨rfl, ?_⟩; first | exact Or.inl (by omega) | exact Or.inr (by have h := DL_ge hdl (show (0 : Int) ≤ 2 by decide) (by omega); rw [show PW 10 2 = 100 from rfl] at h; exact h))

theorem dMo_power_0 : decode prog_9_method_25_code 0 = .ok (.aload_n 0, 1) := by decide +kernel
theorem dMo_power_1 : decode prog_9_method_25_code 1 = .ok (.iload_n 2, 1) := by decide +kernel
theorem dMo_power_2 : decode prog_9_method_25_code 2 = .ok (.invokevirtual 107, 3) := by decide +kernel
theorem dMo_power_5 : decode prog_9_method_25_code 5 = .ok (.istore_n 3, 1) := by decide +kernel
theorem dMo_power_6 : decode prog_9_method_25_code 6 = .ok (.iload_n 3, 1) := by decide +kernel
theorem dMo_power_7 : decode prog_9_method_25_code 7 = .ok (.bipush 100, 2) := by decide +kernel
theorem dMo_power_9 : decode prog_9_method_25_code 9 = .ok (.if_icmp .ne 6, 3) := by decide +kernel
theorem dMo_power_12 : decode prog_9_method_25_code 12 = .ok (.bipush (-4), 2) := by decide +kernel
theorem dMo_power_14 : decode prog_9_method_25_code 14 = .ok (.ireturn, 1) := by decide +kernel
theorem dMo_power_15 : decode prog_9_method_25_code 15 = .ok (.iload_n 3, 1) := by decide +kernel
theorem dMo_power_16 : decode prog_9_method_25_code 16 = .ok (.ifCond .ge 15, 3) := by decide +kernel
theorem dMo_power_19 : decode prog_9_method_25_code 19 = .ok (.aload_n 0, 1) := by decide +kernel
theorem dMo_power_20 : decode prog_9_method_25_code 20 = .ok (.getfield 17, 3) := by decide +kernel
theorem dMo_power_23 : decode prog_9_method_25_code 23 = .ok (.iload_n 1, 1) := by decide +kernel
theorem dMo_power_24 : decode prog_9_method_25_code 24 = .ok (.iaload, 1) := by decide +kernel
theorem dMo_power_25 : decode prog_9_method_25_code 25 = .ok (.ifCond .ne 6, 3) := by decide +kernel
theorem dMo_power_28 : decode prog_9_method_25_code 28 = .ok (.bipush (-5), 2) := by decide +kernel
theorem dMo_power_30 : decode prog_9_method_25_code 30 = .ok (.ireturn, 1) := by decide +kernel
theorem dMo_power_31 : decode prog_9_method_25_code 31 = .ok (.iload_n 3, 1) := by decide +kernel
theorem dMo_power_32 : decode prog_9_method_25_code 32 = .ok (.ifCond .ge 8, 3) := by decide +kernel
theorem dMo_power_35 : decode prog_9_method_25_code 35 = .ok (.iload_n 3, 1) := by decide +kernel
theorem dMo_power_36 : decode prog_9_method_25_code 36 = .ok (.ineg, 1) := by decide +kernel
theorem dMo_power_37 : decode prog_9_method_25_code 37 = .ok (.goto 4, 3) := by decide +kernel
theorem dMo_power_40 : decode prog_9_method_25_code 40 = .ok (.iload_n 3, 1) := by decide +kernel
theorem dMo_power_41 : decode prog_9_method_25_code 41 = .ok (.istore 4, 2) := by decide +kernel
theorem dMo_power_43 : decode prog_9_method_25_code 43 = .ok (.iload 4, 2) := by decide +kernel
theorem dMo_power_45 : decode prog_9_method_25_code 45 = .ok (.aload_n 0, 1) := by decide +kernel
theorem dMo_power_46 : decode prog_9_method_25_code 46 = .ok (.getfield 20, 3) := by decide +kernel
theorem dMo_power_49 : decode prog_9_method_25_code 49 = .ok (.iload_n 1, 1) := by decide +kernel
theorem dMo_power_50 : decode prog_9_method_25_code 50 = .ok (.iaload, 1) := by decide +kernel
theorem dMo_power_51 : decode prog_9_method_25_code 51 = .ok (.imul, 1) := by decide +kernel
theorem dMo_power_52 : decode prog_9_method_25_code 52 = .ok (.istore 5, 2) := by decide +kernel
theorem dMo_power_54 : decode prog_9_method_25_code 54 = .ok (.aload_n 0, 1) := by decide +kernel
theorem dMo_power_55 : decode prog_9_method_25_code 55 = .ok (.iconst 0, 1) := by decide +kernel
theorem dMo_power_56 : decode prog_9_method_25_code 56 = .ok (.iconst 0, 1) := by decide +kernel
theorem dMo_power_57 : decode prog_9_method_25_code 57 = .ok (.invokevirtual 76, 3) := by decide +kernel
theorem dMo_power_60 : decode prog_9_method_25_code 60 = .ok (.iconst 0, 1) := by decide +kernel
theorem dMo_power_61 : decode prog_9_method_25_code 61 = .ok (.istore 6, 2) := by decide +kernel
theorem dMo_power_63 : decode prog_9_method_25_code 63 = .ok (.iload 6, 2) := by decide +kernel
theorem dMo_power_65 : decode prog_9_method_25_code 65 = .ok (.iload 4, 2) := by decide +kernel
theorem dMo_power_67 : decode prog_9_method_25_code 67 = .ok (.if_icmp .ge 41, 3) := by decide +kernel
theorem dMo_power_70 : decode prog_9_method_25_code 70 = .ok (.aload_n 0, 1) := by decide +kernel
theorem dMo_power_71 : decode prog_9_method_25_code 71 = .ok (.getfield 47, 3) := by decide +kernel
theorem dMo_power_74 : decode prog_9_method_25_code 74 = .ok (.iconst 0, 1) := by decide +kernel
theorem dMo_power_75 : decode prog_9_method_25_code 75 = .ok (.iaload, 1) := by decide +kernel
theorem dMo_power_76 : decode prog_9_method_25_code 76 = .ok (.sipush 200, 3) := by decide +kernel
theorem dMo_power_79 : decode prog_9_method_25_code 79 = .ok (.if_icmp .gt 29, 3) := by decide +kernel
theorem dMo_power_82 : decode prog_9_method_25_code 82 = .ok (.aload_n 0, 1) := by decide +kernel
theorem dMo_power_83 : decode prog_9_method_25_code 83 = .ok (.iconst 1, 1) := by decide +kernel
theorem dMo_power_84 : decode prog_9_method_25_code 84 = .ok (.iload_n 1, 1) := by decide +kernel
theorem dMo_power_85 : decode prog_9_method_25_code 85 = .ok (.iconst 0, 1) := by decide +kernel
theorem dMo_power_86 : decode prog_9_method_25_code 86 = .ok (.invokevirtual 92, 3) := by decide +kernel
theorem dMo_power_89 : decode prog_9_method_25_code 89 = .ok (.aload_n 0, 1) := by decide +kernel
theorem dMo_power_90 : decode prog_9_method_25_code 90 = .ok (.iconst 2, 1) := by decide +kernel
theorem dMo_power_91 : decode prog_9_method_25_code 91 = .ok (.iconst 0, 1) := by decide +kernel
theorem dMo_power_92 : decode prog_9_method_25_code 92 = .ok (.iconst 1, 1) := by decide +kernel
theorem dMo_power_93 : decode prog_9_method_25_code 93 = .ok (.invokevirtual 95, 3) := by decide +kernel
theorem dMo_power_96 : decode prog_9_method_25_code 96 = .ok (.aload_n 0, 1) := by decide +kernel
theorem dMo_power_97 : decode prog_9_method_25_code 97 = .ok (.iconst 0, 1) := by decide +kernel
theorem dMo_power_98 : decode prog_9_method_25_code 98 = .ok (.iconst 2, 1) := by decide +kernel
theorem dMo_power_99 : decode prog_9_method_25_code 99 = .ok (.invokevirtual 70, 3) := by decide +kernel
theorem dMo_power_102 : decode prog_9_method_25_code 102 = .ok (.iinc 6 1, 3) := by decide +kernel
theorem dMo_power_105 : decode prog_9_method_25_code 105 = .ok (.goto (-42), 3) := by decide +kernel
theorem dMo_power_108 : decode prog_9_method_25_code 108 = .ok (.aload_n 0, 1) := by decide +kernel
theorem dMo_power_109 : decode prog_9_method_25_code 109 = .ok (.getfield 47, 3) := by decide +kernel
theorem dMo_power_112 : decode prog_9_method_25_code 112 = .ok (.iconst 0, 1) := by decide +kernel
theorem dMo_power_113 : decode prog_9_method_25_code 113 = .ok (.iaload, 1) := by decide +kernel
theorem dMo_power_114 : decode prog_9_method_25_code 114 = .ok (.sipush 200, 3) := by decide +kernel
theorem dMo_power_117 : decode prog_9_method_25_code 117 = .ok (.if_icmp .gt 11, 3) := by decide +kernel
theorem dMo_power_120 : decode prog_9_method_25_code 120 = .ok (.iload 5, 2) := by decide +kernel
theorem dMo_power_122 : decode prog_9_method_25_code 122 = .ok (.sipush 200, 3) := by decide +kernel
theorem dMo_power_125 : decode prog_9_method_25_code 125 = .ok (.if_icmp .le 6, 3) := by decide +kernel
theorem dMo_power_128 : decode prog_9_method_25_code 128 = .ok (.bipush (-7), 2) := by decide +kernel
theorem dMo_power_130 : decode prog_9_method_25_code 130 = .ok (.ireturn, 1) := by decide +kernel
theorem dMo_power_131 : decode prog_9_method_25_code 131 = .ok (.iload 4, 2) := by decide +kernel
theorem dMo_power_133 : decode prog_9_method_25_code 133 = .ok (.iconst 2, 1) := by decide +kernel
theorem dMo_power_134 : decode prog_9_method_25_code 134 = .ok (.irem, 1) := by decide +kernel
theorem dMo_power_135 : decode prog_9_method_25_code 135 = .ok (.ifCond .ne 7, 3) := by decide +kernel
theorem dMo_power_138 : decode prog_9_method_25_code 138 = .ok (.iconst 1, 1) := by decide +kernel
theorem dMo_power_139 : decode prog_9_method_25_code 139 = .ok (.goto 9, 3) := by decide +kernel
theorem dMo_power_142 : decode prog_9_method_25_code 142 = .ok (.aload_n 0, 1) := by decide +kernel
theorem dMo_power_143 : decode prog_9_method_25_code 143 = .ok (.getfield 17, 3) := by decide +kernel
theorem dMo_power_146 : decode prog_9_method_25_code 146 = .ok (.iload_n 1, 1) := by decide +kernel
theorem dMo_power_147 : decode prog_9_method_25_code 147 = .ok (.iaload, 1) := by decide +kernel
theorem dMo_power_148 : decode prog_9_method_25_code 148 = .ok (.istore 6, 2) := by decide +kernel
theorem dMo_power_150 : decode prog_9_method_25_code 150 = .ok (.iload_n 3, 1) := by decide +kernel
theorem dMo_power_151 : decode prog_9_method_25_code 151 = .ok (.ifCond .lt 54, 3) := by decide +kernel
theorem dMo_power_154 : decode prog_9_method_25_code 154 = .ok (.aload_n 0, 1) := by decide +kernel
theorem dMo_power_155 : decode prog_9_method_25_code 155 = .ok (.getfield 98, 3) := by decide +kernel
theorem dMo_power_158 : decode prog_9_method_25_code 158 = .ok (.aload_n 0, 1) := by decide +kernel
theorem dMo_power_159 : decode prog_9_method_25_code 159 = .ok (.getfield 20, 3) := by decide +kernel
theorem dMo_power_162 : decode prog_9_method_25_code 162 = .ok (.iload_n 1, 1) := by decide +kernel
theorem dMo_power_163 : decode prog_9_method_25_code 163 = .ok (.iaload, 1) := by decide +kernel
theorem dMo_power_164 : decode prog_9_method_25_code 164 = .ok (.invokestatic 89, 3) := by decide +kernel
theorem dMo_power_167 : decode prog_9_method_25_code 167 = .ok (.istore 7, 2) := by decide +kernel
theorem dMo_power_169 : decode prog_9_method_25_code 169 = .ok (.iload 7, 2) := by decide +kernel
theorem dMo_power_171 : decode prog_9_method_25_code 171 = .ok (.iload 5, 2) := by decide +kernel
theorem dMo_power_173 : decode prog_9_method_25_code 173 = .ok (.if_icmp .ge 8, 3) := by decide +kernel
theorem dMo_power_176 : decode prog_9_method_25_code 176 = .ok (.iload 7, 2) := by decide +kernel
theorem dMo_power_178 : decode prog_9_method_25_code 178 = .ok (.goto 5, 3) := by decide +kernel
theorem dMo_power_181 : decode prog_9_method_25_code 181 = .ok (.iload 5, 2) := by decide +kernel
theorem dMo_power_183 : decode prog_9_method_25_code 183 = .ok (.istore 7, 2) := by decide +kernel
theorem dMo_power_185 : decode prog_9_method_25_code 185 = .ok (.aload_n 0, 1) := by decide +kernel
theorem dMo_power_186 : decode prog_9_method_25_code 186 = .ok (.iconst 0, 1) := by decide +kernel
theorem dMo_power_187 : decode prog_9_method_25_code 187 = .ok (.iload 5, 2) := by decide +kernel
theorem dMo_power_189 : decode prog_9_method_25_code 189 = .ok (.iload 7, 2) := by decide +kernel
theorem dMo_power_191 : decode prog_9_method_25_code 191 = .ok (.isub, 1) := by decide +kernel
theorem dMo_power_192 : decode prog_9_method_25_code 192 = .ok (.invokevirtual 101, 3) := by decide +kernel
theorem dMo_power_195 : decode prog_9_method_25_code 195 = .ok (.aload_n 0, 1) := by decide +kernel
theorem dMo_power_196 : decode prog_9_method_25_code 196 = .ok (.iconst 0, 1) := by decide +kernel
theorem dMo_power_197 : decode prog_9_method_25_code 197 = .ok (.iload 6, 2) := by decide +kernel
theorem dMo_power_199 : decode prog_9_method_25_code 199 = .ok (.iload 7, 2) := by decide +kernel
theorem dMo_power_201 : decode prog_9_method_25_code 201 = .ok (.invokevirtual 79, 3) := by decide +kernel
theorem dMo_power_204 : decode prog_9_method_25_code 204 = .ok (.ireturn, 1) := by decide +kernel
theorem dMo_power_205 : decode prog_9_method_25_code 205 = .ok (.aload_n 0, 1) := by decide +kernel
theorem dMo_power_206 : decode prog_9_method_25_code 206 = .ok (.iconst 1, 1) := by decide +kernel
theorem dMo_power_207 : decode prog_9_method_25_code 207 = .ok (.iconst 0, 1) := by decide +kernel
theorem dMo_power_208 : decode prog_9_method_25_code 208 = .ok (.invokevirtual 70, 3) := by decide +kernel
theorem dMo_power_211 : decode prog_9_method_25_code 211 = .ok (.aload_n 0, 1) := by decide +kernel
theorem dMo_power_212 : decode prog_9_method_25_code 212 = .ok (.iconst 0, 1) := by decide +kernel
theorem dMo_power_213 : decode prog_9_method_25_code 213 = .ok (.iload 5, 2) := by decide +kernel
theorem dMo_power_215 : decode prog_9_method_25_code 215 = .ok (.aload_n 0, 1) := by decide +kernel
theorem dMo_power_216 : decode prog_9_method_25_code 216 = .ok (.getfield 98, 3) := by decide +kernel
theorem dMo_power_219 : decode prog_9_method_25_code 219 = .ok (.iadd, 1) := by decide +kernel
theorem dMo_power_220 : decode prog_9_method_25_code 220 = .ok (.invokevirtual 76, 3) := by decide +kernel
theorem dMo_power_223 : decode prog_9_method_25_code 223 = .ok (.aload_n 0, 1) := by decide +kernel
theorem dMo_power_224 : decode prog_9_method_25_code 224 = .ok (.invokevirtual 104, 3) := by decide +kernel
theorem dMo_power_227 : decode prog_9_method_25_code 227 = .ok (.aload_n 0, 1) := by decide +kernel
theorem dMo_power_228 : decode prog_9_method_25_code 228 = .ok (.iconst 2, 1) := by decide +kernel
theorem dMo_power_229 : decode prog_9_method_25_code 229 = .ok (.iload 6, 2) := by decide +kernel
theorem dMo_power_231 : decode prog_9_method_25_code 231 = .ok (.aload_n 0, 1) := by decide +kernel
theorem dMo_power_232 : decode prog_9_method_25_code 232 = .ok (.getfield 98, 3) := by decide +kernel
theorem dMo_power_235 : decode prog_9_method_25_code 235 = .ok (.invokevirtual 79, 3) := by decide +kernel
theorem dMo_power_238 : decode prog_9_method_25_code 238 = .ok (.ireturn, 1) := by decide +kernel
abbrev qMo_power (dC : Nat → ClassId) (dI : Nat → Nat → Nat) (dA : Nat → ClassId) (mo : Nat) (ft : Int) (lf : Int) (hg : Int) (kk : Int) (tx : Int) (pn : Int) (tk : Int) (fm : Int) (tO : Int) (tl : Int) (mI : Int → Int) (mT : Int → Int) (mS : Int → Int) (mC : Int → Int) (mL : Int → Int) (mB : Int → Int) (mF : Int → Int) (mU : Int → Int) (mX : Int → Int) (mP : Int → Int) (mK : Int → Int) (mD : Int → Int) (mZ : Int → Int) (x : Int) (y : Int) (xa : Th) (yb : Th) (A : Nat → Prop) : Array Value → State → Outcome → State → Prop := QI (dC, dI) vwCl (tyA dA) (fun (r : Int) (v_ : (Int → Int) × (Int → Int) × (Int → Int) × (Int → Int) × (Int → Int) × (Int → Int) × (Int → Int)) => (((0 < yb.sc ∨ 100 ≤ ab yb.v) ∧ r = -4) ∨ (yb.sc = 0 ∧ ab yb.v < 100 ∧ ((yb.v < 0 ∧ xa.v = 0 ∧ r = -5) ∨ (¬ (yb.v < 0 ∧ xa.v = 0) ∧ (((200 < ab yb.v * xa.sc ∨ PW 10 200 ≤ PW (ab xa.v) (ab yb.v)) ∧ r = -7) ∨ (ab yb.v * xa.sc ≤ 200 ∧ PW (ab xa.v) (ab yb.v) < PW 10 200 ∧ ((yb.v < 0 ∧ mres r (szn (if ab yb.v % 2 = 1 then xa.v else 1) (PW 10 (ab yb.v * xa.sc + kk) / PW (ab xa.v) (ab yb.v))) kk v_.1 v_.2.1 v_.2.2.1 v_.2.2.2.1 v_.2.2.2.2.1) ∨ (0 ≤ yb.v ∧ mres r (szn (if ab yb.v % 2 = 1 then xa.v else 1) (PW (ab xa.v) (ab yb.v) / PW 10 (ab yb.v * xa.sc - min (ab yb.v * xa.sc) (max kk xa.sc)))) (min (ab yb.v * xa.sc) (max kk xa.sc)) v_.1 v_.2.1 v_.2.2.1 v_.2.2.2.1 v_.2.2.2.2.1)))))))) ∧ thO mT mS mC mL mB v_.1 v_.2.1 v_.2.2.1 v_.2.2.2.1 v_.2.2.2.2.1 46) (fun (v_ : (Int → Int) × (Int → Int) × (Int → Int) × (Int → Int) × (Int → Int) × (Int → Int) × (Int → Int)) => wMo dA mo ft lf hg kk tx pn tk fm tO tl mI v_.1 v_.2.1 v_.2.2.1 v_.2.2.2.1 v_.2.2.2.2.1 mF mU mX mP mK v_.2.2.2.2.2.1 v_.2.2.2.2.2.2 []) A
abbrev rmMo_power : Room := { frames := 3, cells := 0, slots := 0, locals := 68 }
set_option maxRecDepth 100000 in
set_option maxHeartbeats 1000000 in
theorem cMo_power (l : Launch) (dC : Nat → ClassId) (dI : Nat → Nat → Nat) (dA : Nat → ClassId) (mo : Nat) (ft : Int) (lf : Int) (hg : Int) (kk : Int) (tx : Int) (pn : Int) (tk : Int) (fm : Int) (tO : Int) (tl : Int) (mI : Int → Int) (mT : Int → Int) (mS : Int → Int) (mC : Int → Int) (mL : Int → Int) (mB : Int → Int) (mF : Int → Int) (mU : Int → Int) (mX : Int → Int) (mP : Int → Int) (mK : Int → Int) (mD : Int → Int) (mZ : Int → Int) (x : Int) (y : Int) (xa : Th) (yb : Th) (hxy : 0 ≤ x ∧ x ≤ 46 ∧ 0 ≤ y ∧ y ≤ 46) (hTa : MT mT mS mC mL mB x xa) (hta : xa.t = 0) (hTb : MT mT mS mC mL mB y yb) (htb : yb.t = 0) (hkk : 0 ≤ kk ∧ kk ≤ 40) (sz : Nat) : Met l yMo_power wsMo_power rmMo_power (PC (dC, dI) vwCl (tyA dA) XN [.ref mo, .int (iI x), .int (iI y)] (wMo dA mo ft lf hg kk tx pn tk fm tO tl mI mT mS mC mL mB mF mU mX mP mK mD mZ []) sz) (qMo_power dC dI dA mo ft lf hg kk tx pn tk fm tO tl mI mT mS mC mL mB mF mU mX mP mK mD mZ x y xa yb (va_A (wMo dA mo ft lf hg kk tx pn tk fm tO tl mI mT mS mC mL mB mF mU mX mP mK mD mZ []) sz)) 0 0 (va_A (wMo dA mo ft lf hg kk tx pn tk fm tO tl mI mT mS mC mL mB mF mU mX mP mK mD mZ []) sz) := by
  refine met_of (cc := prog_9_method_25_code) (maxL := 8) (ret := (some .int)) (Qc := qMo_power dC dI dA mo ft lf hg kk tx pn tk fm tO tl mI mT mS mC mL mB mF mU mX mP mK mD mZ x y xa yb) XN_ok (by decide) rfl (Nat.le_of_ble_eq_true rfl) ?_
  intro p e s m below meth c ls A hx hb hr hml hown hts hlocks hnm hK hP hD hA hX hS hl
  have hl : lv_has ls 8 [(0, .ref mo), (1, .int (iI x)), (2, .int (iI y))] := hl
  have hown : s.vm.findClass "MacroReckonerModel" = some m.cls := hown
  obtain ⟨H, hH⟩ : ∃ H : Heap, H = s.heap := ⟨_, rfl⟩
  obtain ⟨locs, hlo⟩ : ∃ L : List Loc, L = [] := ⟨_, rfl⟩
  have hP : va_P (dC, dI) vwCl (wMo dA mo ft lf hg kk tx pn tk fm tO tl mI mT mS mC mL mB mF mU mX mP mK mD mZ []) H := hH ▸ hP
  have hS : va_S A s.heap H locs := by rw [hH, hlo]; exact hS
  suffices hgo : W p l e rmMo_power s m [.ref mo, .int (iI x), .int (iI y)].toArray below meth c H locs 0 0 (MQ below (qMo_power dC dI dA mo ft lf hg kk tx pn tk fm tO tl mI mT mS mC mL mB mF mU mX mP mK mD mZ x y xa yb A) [.ref mo, .int (iI x), .int (iI y)].toArray s 0 0 A) (F0 m 0 ls []) by rw [hH, hlo] at hgo; exact hgo
  clear hH hlo
  obtain ⟨hCx, hscx, hTx, hSx⟩ := MT_n hTa hta
  have hbx := TD_bd hTx
  have hlx := (MT_b hTa).2.2.2.2
  obtain ⟨hCy, hscy, hTy, hSy⟩ := MT_n hTb htb
  have hby := TD_bd hTy
  have hly := (MT_b hTb).2.2.2.2
  refine lv_aload_n hx hb dMo_power_0 rfl (lv_at hl 0 rfl) ?_
  refine lv_iload_n hx hb dMo_power_1 rfl (lv_at hl 2 rfl) ?_
  refine cv_i (va_runV (C := "MacroReckonerModel") (As := [.int (iI y)]) (rest := []) ⟨hx, hb, hml, hown, hts⟩ (cMo_small l dC dI dA mo ft lf hg kk tx pn tk fm tO tl mI mT mS mC mL mB mF mU mX mP mK mD mZ y yb (by omega) (by exact hTb) (by exact htb) H.size) (cwV 1 hts (gdV wt5_49 wt5_51 ws5_9 wt1_8 wt5_52) rfl rfl rfl ⟨rfl, by decide, by decide, by decide +kernel⟩ ⟨by decide, by decide⟩) (preV (q := ("MacroReckonerModel", TMo, 23)) hK hP hD hS hA XN_ok trivial [0, 1, 2, 3, 4, 5, 6, 7, 8, 9, 10, 11, 12, 13] rfl rfl 0 rfl rfl) rfl rfl hl.1 rfl (lv_room (Nat.le_of_ble_eq_true rfl)) dMo_power_2 ⟨Nat.zero_le _, Nat.zero_le _⟩) hP hD hS hA [0, 1, 2, 3, 4, 5, 6, 7, 8, 9, 10, 11, 12, 13] [] rfl (fun v_ => wMo dA mo ft lf hg kk tx pn tk fm tO tl mI mT mS mC mL mB mF mU mX mP mK mD mZ []) (fun _ => rfl) ([] : va_W) rfl (fun _ => rfl) [mo, mo + 1, mo + 2, mo + 3, mo + 4, mo + 5, mo + 6, mo + 7, mo + 8, mo + 9, mo + 10, mo + 11, mo + 12, mo + 13] rfl (fun _ => rfl) (fun _ => rfl) (fun v9 u_ H locs hq2 hP hD hS => ?_)
  have hP : va_P (dC, dI) vwCl (wMo dA mo ft lf hg kk tx pn tk fm tO tl mI mT mS mC mL mB mF mU mX mP mK mD mZ []) H := hP
  have hD : va_D A (wMo dA mo ft lf hg kk tx pn tk fm tO tl mI mT mS mC mL mB mF mU mX mP mK mD mZ []) := hD
  have hq2 : (v9 = 100 ∧ (0 < yb.sc ∨ 100 ≤ ab yb.v)) ∨ (yb.sc = 0 ∧ ab yb.v < 100 ∧ v9 = yb.v) := hq2
  have hv9 : -100 ≤ v9 ∧ v9 ≤ 100 := by have h := hq2; unfold ab at h; omega
  refine lv_istore_n (lv' := [(3, .int (iI v9)), (0, .ref mo), (1, .int (iI x)), (2, .int (iI y))]) hx hb dMo_power_5 rfl hl (by decide) rfl (fun ls hl => ?_)
  refine lv_iload_n hx hb dMo_power_6 rfl (lv_at hl 0 rfl) ?_
  refine lv_bipush (v := iI 100) hx hb dMo_power_7 (by decide) ?_
  refine iv_icmp_ne (tgt := 15) hx hb dMo_power_9 (by decide) ⟨by omega, by omega⟩ ⟨by decide, by decide⟩ (fun hc9 => ?_) (fun hc9 => ?_)
  · have hsl : yb.sc = 0 ∧ ab yb.v < 100 ∧ v9 = yb.v := by rcases hq2 with ⟨h1, h2⟩ | h1; omega; exact h1
    have hS0 : mS x = 0 ↔ xa.v = 0 := by unfold sgs at hSx; omega
    refine lv_iload_n hx hb dMo_power_15 rfl (lv_at hl 0 rfl) ?_
    refine iv_if_ge (tgt := 31) hx hb dMo_power_16 (by decide) ⟨by omega, by omega⟩ (fun hc16 => ?_) (fun hc16 => ?_)
    · refine lv_iload_n hx hb dMo_power_31 rfl (lv_at hl 0 rfl) ?_
      refine iv_if_ge (tgt := 40) hx hb dMo_power_32 (by decide) ⟨by omega, by omega⟩ (fun hc32 => ?_) (fun hc32 => absurd hc32 (by omega))
      refine lv_iload_n hx hb dMo_power_40 rfl (lv_at hl 0 rfl) ?_
      refine lv_istore (lv' := [(4, .int (iI v9)), (3, .int (iI v9)), (0, .ref mo), (1, .int (iI x)), (2, .int (iI y))]) hx hb dMo_power_41 hl (by decide) rfl (fun ls hl => ?_)
      obtain ⟨n9, e_n9⟩ : ∃ z : Int, z = v9 := ⟨_, rfl⟩
      have hl : lv_has ls 8 [(4, .int (iI n9)), (3, .int (iI v9)), (0, .ref mo), (1, .int (iI x)), (2, .int (iI y))] := by rw [e_n9]; exact hl
      have hn9 : n9 = ab yb.v := by unfold ab; omega
      have hnx : ¬ (yb.v < 0 ∧ xa.v = 0) := by omega
      refine lv_iload hx hb dMo_power_43 (lv_at hl 0 rfl) ?_
      refine lv_aload_n hx hb dMo_power_45 rfl (lv_at hl 2 rfl) ?_
      refine va_get (D := (dC, dI)) (ci := 7) (v := .ref (mo + 4)) (C := "MacroReckonerModel") (T := TMo) (N := 23) hx hb hts inMo hown hK hP 0 rfl rfl 5 (by decide) (hts _ wt4_63) (fun _ h9 => h9) rfl dMo_power_46 ?_
      refine lv_iload_n hx hb dMo_power_49 rfl (lv_at hl 3 rfl) ?_
      refine iv_iald hx hb hK hP 4 0 rfl rfl (by decide) dMo_power_50 (by omega) (by omega) ?_
      refine iv_imul hx hb dMo_power_51 ?_
      refine lv_istore (lv' := [(5, .int (iI (n9 * (mC x)))), (4, .int (iI n9)), (3, .int (iI v9)), (0, .ref mo), (1, .int (iI x)), (2, .int (iI y))]) hx hb dMo_power_52 hl (by decide) rfl (fun ls hl => ?_)
      have hex3 : n9 * mC x = ab yb.v * xa.sc := by rw [hn9, hCx]
      have hex1 := Int.mul_nonneg (show 0 ≤ ab yb.v by exact ab_nn) hscx.1
      have hex2 := Int.mul_le_mul_of_nonneg_right (show ab yb.v ≤ 99 by omega) hscx.1
      refine lv_aload_n hx hb dMo_power_54 rfl (lv_at hl 3 rfl) ?_
      refine lv_iconst (v := iI 0) hx hb dMo_power_55 rfl ?_
      refine lv_iconst (v := iI 0) hx hb dMo_power_56 rfl ?_
      refine cv_v (va_runV (C := "MacroReckonerModel") (As := [.int (iI 0), .int (iI 0)]) (rest := []) ⟨hx, hb, hml, hown, hts⟩ (cMo_unit l dC dI dA mo ft lf hg kk tx pn tk fm tO tl mI mT mS mC mL mB mF mU mX mP mK mD mZ 0 0 (by omega) (by omega) H.size) (cwV 2 hts (gdV wt5_53 wt5_55 ws5_10 wt1_8 wt5_56) rfl rfl rfl ⟨rfl, by decide, by decide, by decide +kernel⟩ ⟨by decide, by decide⟩) (preV (q := ("MacroReckonerModel", TMo, 23)) hK hP hD hS hA XN_ok trivial [0, 1, 2, 3, 4, 5, 6, 7, 8, 9, 10, 11, 12, 13] rfl rfl 0 rfl rfl) rfl rfl hl.1 rfl (lv_room (Nat.le_of_ble_eq_true rfl)) dMo_power_57 ⟨Nat.zero_le _, Nat.zero_le _⟩) hP hD hS hA [0, 1, 2, 3, 4, 5, 6, 7, 8, 9, 10, 11, 12, 13] [] rfl (fun v_ => wMo dA mo ft lf hg kk tx pn tk fm tO tl mI mT mS mC mL mB mF mU mX mP mK v_.1 v_.2 []) (fun _ => rfl) ([] : va_W) rfl (fun _ => rfl) [mo, mo + 1, mo + 2, mo + 3, mo + 4, mo + 5, mo + 6, mo + 7, mo + 8, mo + 9, mo + 10, mo + 11, mo + 12, mo + 13] rfl (fun _ => rfl) (fun _ => rfl) (fun u_ H locs hq57 hP hD hS => ?_)
      obtain ⟨D1_57, Z1_57⟩ := u_
      have hP : va_P (dC, dI) vwCl (wMo dA mo ft lf hg kk tx pn tk fm tO tl mI mT mS mC mL mB mF mU mX mP mK D1_57 Z1_57 []) H := hP
      have hD : va_D A (wMo dA mo ft lf hg kk tx pn tk fm tO tl mI mT mS mC mL mB mF mU mX mP mK D1_57 Z1_57 []) := hD
      have hq57 : MR D1_57 Z1_57 0 (PW 10 0) ∧ others mD mZ D1_57 Z1_57 0 := hq57
      refine lv_iconst (v := iI 0) hx hb dMo_power_60 rfl ?_
      refine lv_istore (lv' := [(6, .int (iI 0)), (5, .int (iI (n9 * (mC x)))), (4, .int (iI n9)), (3, .int (iI v9)), (0, .ref mo), (1, .int (iI x)), (2, .int (iI y))]) hx hb dMo_power_61 hl (by decide) rfl (fun ls hl => ?_)
      have L63 : ∀ (n : Nat) (D9 : Int → Int) (Z9 : Int → Int) (j : Int) (H : Heap) (locs : List Loc) (ls : Array Slot), (0 ≤ j ∧ j ≤ n9) → (MR D9 Z9 0 (PW (ab xa.v) j)) → (n9 - j).toNat < n → va_P (dC, dI) vwCl (wMo dA mo ft lf hg kk tx pn tk fm tO tl mI mT mS mC mL mB mF mU mX mP mK D9 Z9 []) H → va_D A (wMo dA mo ft lf hg kk tx pn tk fm tO tl mI mT mS mC mL mB mF mU mX mP mK D9 Z9 []) → va_S A s.heap H locs → lv_has ls 8 [(6, .int (iI j)), (5, .int (iI (n9 * (mC x)))), (4, .int (iI n9)), (3, .int (iI v9)), (0, .ref mo), (1, .int (iI x)), (2, .int (iI y))] → W p l e rmMo_power s m [.ref mo, .int (iI x), .int (iI y)].toArray below meth c H locs 0 0 (MQ below (qMo_power dC dI dA mo ft lf hg kk tx pn tk fm tO tl mI mT mS mC mL mB mF mU mX mP mK mD mZ x y xa yb A) [.ref mo, .int (iI x), .int (iI y)].toArray s 0 0 A) (F0 m 63 ls []) := by
        intro n
        induction n with
        | zero => intro D9 Z9 j H locs ls hj hJ hn; omega
        | succ n ih =>
          intro D9 Z9 j H locs ls hj hJ hn hP hD hS hl
          have hz9 := hJ.1.1
          have ih63 := ih
          refine lv_iload hx hb dMo_power_63 (lv_at hl 0 rfl) ?_
          refine lv_iload hx hb dMo_power_65 (lv_at hl 2 rfl) ?_
          refine iv_icmp_ge (tgt := 108) hx hb dMo_power_67 (by decide) ⟨by omega, by omega⟩ ⟨by omega, by omega⟩ (fun hc67 => ?_) (fun hc67 => ?_)
          · refine lv_aload_n hx hb dMo_power_108 rfl (lv_at hl 4 rfl) ?_
            refine va_get (D := (dC, dI)) (ci := 7) (v := .ref (mo + 13)) (C := "MacroReckonerModel") (T := TMo) (N := 23) hx hb hts inMo hown hK hP 0 rfl rfl 22 (by decide) (hts _ wt4_80) (fun _ h9 => h9) rfl dMo_power_109 ?_
            refine lv_iconst (v := iI 0) hx hb dMo_power_112 rfl ?_
            refine iv_iald hx hb hK hP 13 0 rfl rfl (by decide) dMo_power_113 (by omega) (by omega) ?_
            refine lv_sipush (v := iI 200) hx hb dMo_power_114 (by decide) ?_
            refine iv_icmp_gt (tgt := 128) hx hb dMo_power_117 (by decide) ⟨by omega, by omega⟩ ⟨by decide, by decide⟩ (fun hc117 => ?_) (fun hc117 => ?_)
            · refine lv_bipush (v := iI (-7)) hx hb dMo_power_128 (by decide) ?_
              exact rt_i hx hb hr hlocks hK hS dMo_power_130 (mT, mS, mC, mL, mB, D9, Z9) hP hD (show (((0 < yb.sc ∨ 100 ≤ ab yb.v) ∧ (-7) = -4) ∨ (yb.sc = 0 ∧ ab yb.v < 100 ∧ ((yb.v < 0 ∧ xa.v = 0 ∧ (-7) = -5) ∨ (¬ (yb.v < 0 ∧ xa.v = 0) ∧ (((200 < ab yb.v * xa.sc ∨ PW 10 200 ≤ PW (ab xa.v) (ab yb.v)) ∧ (-7) = -7) ∨ (ab yb.v * xa.sc ≤ 200 ∧ PW (ab xa.v) (ab yb.v) < PW 10 200 ∧ ((yb.v < 0 ∧ mres (-7) (szn (if ab yb.v % 2 = 1 then xa.v else 1) (PW 10 (ab yb.v * xa.sc + kk) / PW (ab xa.v) (ab yb.v))) kk mT mS mC mL mB) ∨ (0 ≤ yb.v ∧ mres (-7) (szn (if ab yb.v % 2 = 1 then xa.v else 1) (PW (ab xa.v) (ab yb.v) / PW 10 (ab yb.v * xa.sc - min (ab yb.v * xa.sc) (max kk xa.sc)))) (min (ab yb.v * xa.sc) (max kk xa.sc)) mT mS mC mL mB)))))))) ∧ thO mT mS mC mL mB mT mS mC mL mB 46 from by refine ⟨Or.inr ⟨hsl.1, hsl.2.1, Or.inr ⟨hnx, Or.inl ⟨?_, rfl⟩⟩⟩, thO_r⟩; first | exact Or.inl (by omega) | exact Or.inr (hn9 ▸ pow_mono ab_nn hj.1 hj.2 (DL_ge (M_dl hJ) (by decide) (by omega))))
            · refine lv_iload hx hb dMo_power_120 (lv_at hl 1 rfl) ?_
              refine lv_sipush (v := iI 200) hx hb dMo_power_122 (by decide) ?_
              refine iv_icmp_le (tgt := 131) hx hb dMo_power_125 (by decide) ⟨by omega, by omega⟩ ⟨by decide, by decide⟩ (fun hc125 => ?_) (fun hc125 => ?_)
              · refine lv_iload hx hb dMo_power_131 (lv_at hl 2 rfl) ?_
                refine lv_iconst (v := iI 2) hx hb dMo_power_133 rfl ?_
                refine iv_irem hx hb dMo_power_134 (by omega) ⟨by omega, by omega⟩ (by omega) ⟨by decide, by decide⟩ ?_
                refine iv_if_ne (tgt := 142) hx hb dMo_power_135 (by decide) ⟨by omega, by omega⟩ (fun hc135 => ?_) (fun hc135 => ?_)
                · refine lv_aload_n hx hb dMo_power_142 rfl (lv_at hl 4 rfl) ?_
                  refine va_get (D := (dC, dI)) (ci := 7) (v := .ref (mo + 3)) (C := "MacroReckonerModel") (T := TMo) (N := 23) hx hb hts inMo hown hK hP 0 rfl rfl 4 (by decide) (hts _ wt4_62) (fun _ h9 => h9) rfl dMo_power_143 ?_
                  refine lv_iload_n hx hb dMo_power_146 rfl (lv_at hl 5 rfl) ?_
                  refine iv_iald hx hb hK hP 3 0 rfl rfl (by decide) dMo_power_147 (by omega) (by omega) ?_
                  refine lv_istore (lv' := [(6, .int (iI (mS x))), (5, .int (iI (n9 * (mC x)))), (4, .int (iI n9)), (3, .int (iI v9)), (0, .ref mo), (1, .int (iI x)), (2, .int (iI y))]) hx hb dMo_power_148 hl (by decide) rfl (fun ls hl => ?_)
                  obtain ⟨s6, e_s6⟩ : ∃ z : Int, z = mS x := ⟨_, rfl⟩
                  have hl : lv_has ls 8 [(6, .int (iI s6)), (5, .int (iI (n9 * (mC x)))), (4, .int (iI n9)), (3, .int (iI v9)), (0, .ref mo), (1, .int (iI x)), (2, .int (iI y))] := by rw [e_s6]; exact hl
                  have hs6 : (n9 % 2 = 0 ∧ s6 = 1) ∨ (n9 % 2 ≠ 0 ∧ s6 = mS x) := by omega
                  have hjn : j = ab yb.v := by omega
                  rw [hjn] at hJ
                  have hlt9 := DL_lt (M_dl hJ) (show Z9 0 ≤ 200 by omega)
                  refine lv_iload_n hx hb dMo_power_150 rfl (lv_at hl 3 rfl) ?_
                  refine iv_if_lt (tgt := 205) hx hb dMo_power_151 (by decide) ⟨by omega, by omega⟩ (fun hc151 => absurd hc151 (by omega)) (fun hc151 => ?_)
                  refine lv_aload_n hx hb dMo_power_154 rfl (lv_at hl 4 rfl) ?_
                  refine va_get (D := (dC, dI)) (ci := 7) (v := .int (iI kk)) (C := "MacroReckonerModel") (T := TMo) (N := 23) hx hb hts inMo hown hK hP 0 rfl rfl 9 (by decide) (hts _ wt4_67) (fun _ h9 => h9) rfl dMo_power_155 ?_
                  refine lv_aload_n hx hb dMo_power_158 rfl (lv_at hl 4 rfl) ?_
                  refine va_get (D := (dC, dI)) (ci := 7) (v := .ref (mo + 4)) (C := "MacroReckonerModel") (T := TMo) (N := 23) hx hb hts inMo hown hK hP 0 rfl rfl 5 (by decide) (hts _ wt4_63) (fun _ h9 => h9) rfl dMo_power_159 ?_
                  refine lv_iload_n hx hb dMo_power_162 rfl (lv_at hl 5 rfl) ?_
                  refine iv_iald hx hb hK hP 4 0 rfl rfl (by decide) dMo_power_163 (by omega) (by omega) ?_
                  refine cv_i (va_runS (As := [.int (iI kk), .int (iI (mC x))]) (rest := []) ⟨hx, hb, hml, hown, hts⟩ (cMo_greater l dC dI dA kk (mC x) (by omega) H.size) (cwS 2 hts (gdS wt4_223 wt4_224 wt1_8 wt4_225) rfl rfl rfl ⟨rfl, by decide, by decide, by decide +kernel⟩ ⟨by decide, by decide⟩) (preS hK hP hD hS hA XN_ok trivial [] rfl rfl) rfl rfl hl.1 rfl (lv_room (Nat.le_of_ble_eq_true rfl)) dMo_power_164 ⟨Nat.zero_le _, Nat.zero_le _⟩) hP hD hS hA [] [0, 1, 2, 3, 4, 5, 6, 7, 8, 9, 10, 11, 12, 13] rfl (fun v_ => wMo dA mo ft lf hg kk tx pn tk fm tO tl mI mT mS mC mL mB mF mU mX mP mK D9 Z9 []) (fun _ => rfl) (wMo dA mo ft lf hg kk tx pn tk fm tO tl mI mT mS mC mL mB mF mU mX mP mK D9 Z9 []) rfl (fun _ => rfl) [mo, mo + 1, mo + 2, mo + 3, mo + 4, mo + 5, mo + 6, mo + 7, mo + 8, mo + 9, mo + 10, mo + 11, mo + 12, mo + 13] rfl (fun _ => rfl) (fun _ => rfl) (fun t9 u_ H locs hq164 hP hD hS => ?_)
                  have hP : va_P (dC, dI) vwCl (wMo dA mo ft lf hg kk tx pn tk fm tO tl mI mT mS mC mL mB mF mU mX mP mK D9 Z9 []) H := hP
                  have hD : va_D A (wMo dA mo ft lf hg kk tx pn tk fm tO tl mI mT mS mC mL mB mF mU mX mP mK D9 Z9 []) := hD
                  have hq164 : t9 = max kk (mC x) := hq164
                  refine lv_istore (lv' := [(7, .int (iI t9)), (6, .int (iI s6)), (5, .int (iI (n9 * (mC x)))), (4, .int (iI n9)), (3, .int (iI v9)), (0, .ref mo), (1, .int (iI x)), (2, .int (iI y))]) hx hb dMo_power_167 hl (by decide) rfl (fun ls hl => ?_)
                  refine lv_iload hx hb dMo_power_169 (lv_at hl 0 rfl) ?_
                  refine lv_iload hx hb dMo_power_171 (lv_at hl 2 rfl) ?_
                  refine iv_icmp_ge (tgt := 181) hx hb dMo_power_173 (by decide) ⟨by omega, by omega⟩ ⟨by omega, by omega⟩ (fun hc173 => ?_) (fun hc173 => ?_)
                  · refine lv_iload hx hb dMo_power_181 (lv_at hl 2 rfl) ?_
                    refine lv_istore (lv' := [(7, .int (iI (n9 * (mC x)))), (6, .int (iI s6)), (5, .int (iI (n9 * (mC x)))), (4, .int (iI n9)), (3, .int (iI v9)), (0, .ref mo), (1, .int (iI x)), (2, .int (iI y))]) hx hb dMo_power_183 hl (by decide) rfl (fun ls hl => ?_)
                    obtain ⟨tt, e_tt⟩ : ∃ z : Int, z = n9 * (mC x) := ⟨_, rfl⟩
                    have hl : lv_has ls 8 [(7, .int (iI tt)), (6, .int (iI s6)), (5, .int (iI (n9 * (mC x)))), (4, .int (iI n9)), (3, .int (iI v9)), (0, .ref mo), (1, .int (iI x)), (2, .int (iI y))] := by rw [e_tt]; exact hl
                    have htt : tt = min (ab yb.v * xa.sc) (max kk xa.sc) := by omega
                    refine lv_aload_n hx hb dMo_power_185 rfl (lv_at hl 5 rfl) ?_
                    refine lv_iconst (v := iI 0) hx hb dMo_power_186 rfl ?_
                    refine lv_iload hx hb dMo_power_187 (lv_at hl 2 rfl) ?_
                    refine lv_iload hx hb dMo_power_189 (lv_at hl 0 rfl) ?_
                    refine iv_isub hx hb dMo_power_191 ?_
                    refine cv_v (va_runV (C := "MacroReckonerModel") (As := [.int (iI 0), .int (iI ((n9 * (mC x)) - tt))]) (rest := []) ⟨hx, hb, hml, hown, hts⟩ (cMo_cut l dC dI dA mo ft lf hg kk tx pn tk fm tO tl mI mT mS mC mL mB mF mU mX mP mK D9 Z9 0 ((n9 * (mC x)) - tt) (PW (ab xa.v) (ab yb.v)) (by omega) (by omega) (by exact hJ) H.size) (cwV 2 hts (gdV wt5_29 wt5_31 ws5_4 wt1_8 wt5_32) rfl rfl rfl ⟨rfl, by decide, by decide, by decide +kernel⟩ ⟨by decide, by decide⟩) (preV (q := ("MacroReckonerModel", TMo, 23)) hK hP hD hS hA XN_ok trivial [0, 1, 2, 3, 4, 5, 6, 7, 8, 9, 10, 11, 12, 13] rfl rfl 0 rfl rfl) rfl rfl hl.1 rfl (lv_room (Nat.le_of_ble_eq_true rfl)) dMo_power_192 ⟨Nat.zero_le _, Nat.zero_le _⟩) hP hD hS hA [0, 1, 2, 3, 4, 5, 6, 7, 8, 9, 10, 11, 12, 13] [] rfl (fun v_ => wMo dA mo ft lf hg kk tx pn tk fm tO tl mI mT mS mC mL mB mF mU mX mP mK v_.1 v_.2 []) (fun _ => rfl) ([] : va_W) rfl (fun _ => rfl) [mo, mo + 1, mo + 2, mo + 3, mo + 4, mo + 5, mo + 6, mo + 7, mo + 8, mo + 9, mo + 10, mo + 11, mo + 12, mo + 13] rfl (fun _ => rfl) (fun _ => rfl) (fun u_ H locs hq192 hP hD hS => ?_)
                    obtain ⟨D1_192, Z1_192⟩ := u_
                    have hP : va_P (dC, dI) vwCl (wMo dA mo ft lf hg kk tx pn tk fm tO tl mI mT mS mC mL mB mF mU mX mP mK D1_192 Z1_192 []) H := hP
                    have hD : va_D A (wMo dA mo ft lf hg kk tx pn tk fm tO tl mI mT mS mC mL mB mF mU mX mP mK D1_192 Z1_192 []) := hD
                    have hq192 : MR D1_192 Z1_192 0 ((PW (ab xa.v) (ab yb.v)) / PW 10 ((n9 * (mC x)) - tt)) ∧ others D9 Z9 D1_192 Z1_192 0 := hq192
                    rw [hex3, htt] at hq192
                    refine lv_aload_n hx hb dMo_power_195 rfl (lv_at hl 5 rfl) ?_
                    refine lv_iconst (v := iI 0) hx hb dMo_power_196 rfl ?_
                    refine lv_iload hx hb dMo_power_197 (lv_at hl 1 rfl) ?_
                    refine lv_iload hx hb dMo_power_199 (lv_at hl 0 rfl) ?_
                    refine cv_i (va_runV (C := "MacroReckonerModel") (As := [.int (iI 0), .int (iI s6), .int (iI tt)]) (rest := []) ⟨hx, hb, hml, hown, hts⟩ (cMo_make l dC dI dA mo ft lf hg kk tx pn tk fm tO tl mI mT mS mC mL mB mF mU mX mP mK D1_192 Z1_192 0 s6 tt (PW (ab xa.v) (ab yb.v) / PW 10 (ab yb.v * xa.sc - min (ab yb.v * xa.sc) (max kk xa.sc))) (szn (if ab yb.v % 2 = 1 then xa.v else 1) (PW (ab xa.v) (ab yb.v) / PW 10 (ab yb.v * xa.sc - min (ab yb.v * xa.sc) (max kk xa.sc)))) (by omega) (by exact hq192.1) (by exact (sp_e hSx ab_nn (hn9 ▸ hs6) (fun h1 h2 => by rw [h2, show ab 0 = 0 from rfl, PW_zz (by omega), Int.zero_ediv])).2) (by omega) (by exact (sp_e hSx ab_nn (hn9 ▸ hs6) (fun h1 h2 => by rw [h2, show ab 0 = 0 from rfl, PW_zz (by omega), Int.zero_ediv])).1) H.size) (cwV 3 hts (gdV wt4_195 wt4_197 ws4_3 wt1_8 wt4_198) rfl rfl rfl ⟨rfl, by decide, by decide, by decide +kernel⟩ ⟨by decide, by decide⟩) (preV (q := ("MacroReckonerModel", TMo, 23)) hK hP hD hS hA XN_ok trivial [0, 1, 2, 3, 4, 5, 6, 7, 8, 9, 10, 11, 12, 13] rfl rfl 0 rfl rfl) rfl rfl hl.1 rfl (lv_room (Nat.le_of_ble_eq_true rfl)) dMo_power_201 ⟨Nat.zero_le _, Nat.zero_le _⟩) hP hD hS hA [0, 1, 2, 3, 4, 5, 6, 7, 8, 9, 10, 11, 12, 13] [] rfl (fun v_ => wMo dA mo ft lf hg kk tx pn tk fm tO tl mI v_.1 v_.2.1 v_.2.2.1 v_.2.2.2.1 v_.2.2.2.2 mF mU mX mP mK D1_192 Z1_192 []) (fun _ => rfl) ([] : va_W) rfl (fun _ => rfl) [mo, mo + 1, mo + 2, mo + 3, mo + 4, mo + 5, mo + 6, mo + 7, mo + 8, mo + 9, mo + 10, mo + 11, mo + 12, mo + 13] rfl (fun _ => rfl) (fun _ => rfl) (fun r201 u_ H locs hq201 hP hD hS => ?_)
                    obtain ⟨T1_201, S1_201, C1_201, L1_201, B1_201⟩ := u_
                    have hP : va_P (dC, dI) vwCl (wMo dA mo ft lf hg kk tx pn tk fm tO tl mI T1_201 S1_201 C1_201 L1_201 B1_201 mF mU mX mP mK D1_192 Z1_192 []) H := hP
                    have hD : va_D A (wMo dA mo ft lf hg kk tx pn tk fm tO tl mI T1_201 S1_201 C1_201 L1_201 B1_201 mF mU mX mP mK D1_192 Z1_192 []) := hD
                    have hq201 : mres r201 (szn (if ab yb.v % 2 = 1 then xa.v else 1) (PW (ab xa.v) (ab yb.v) / PW 10 (ab yb.v * xa.sc - min (ab yb.v * xa.sc) (max kk xa.sc)))) tt T1_201 S1_201 C1_201 L1_201 B1_201 ∧ thO mT mS mC mL mB T1_201 S1_201 C1_201 L1_201 B1_201 46 := hq201
                    exact rt_i hx hb hr hlocks hK hS dMo_power_204 (T1_201, S1_201, C1_201, L1_201, B1_201, D1_192, Z1_192) hP hD (show (((0 < yb.sc ∨ 100 ≤ ab yb.v) ∧ r201 = -4) ∨ (yb.sc = 0 ∧ ab yb.v < 100 ∧ ((yb.v < 0 ∧ xa.v = 0 ∧ r201 = -5) ∨ (¬ (yb.v < 0 ∧ xa.v = 0) ∧ (((200 < ab yb.v * xa.sc ∨ PW 10 200 ≤ PW (ab xa.v) (ab yb.v)) ∧ r201 = -7) ∨ (ab yb.v * xa.sc ≤ 200 ∧ PW (ab xa.v) (ab yb.v) < PW 10 200 ∧ ((yb.v < 0 ∧ mres r201 (szn (if ab yb.v % 2 = 1 then xa.v else 1) (PW 10 (ab yb.v * xa.sc + kk) / PW (ab xa.v) (ab yb.v))) kk T1_201 S1_201 C1_201 L1_201 B1_201) ∨ (0 ≤ yb.v ∧ mres r201 (szn (if ab yb.v % 2 = 1 then xa.v else 1) (PW (ab xa.v) (ab yb.v) / PW 10 (ab yb.v * xa.sc - min (ab yb.v * xa.sc) (max kk xa.sc)))) (min (ab yb.v * xa.sc) (max kk xa.sc)) T1_201 S1_201 C1_201 L1_201 B1_201)))))))) ∧ thO mT mS mC mL mB T1_201 S1_201 C1_201 L1_201 B1_201 46 from by rw [htt] at hq201; exact ⟨Or.inr ⟨hsl.1, hsl.2.1, Or.inr ⟨hnx, Or.inr ⟨by omega, hlt9, Or.inr ⟨by omega, hq201.1⟩⟩⟩⟩, hq201.2⟩)
                  · refine lv_iload hx hb dMo_power_176 (lv_at hl 0 rfl) ?_
                    refine lv_goto (tgt := 183) hx hb dMo_power_178 (by decide) ?_
                    refine lv_istore (lv' := [(7, .int (iI t9)), (6, .int (iI s6)), (5, .int (iI (n9 * (mC x)))), (4, .int (iI n9)), (3, .int (iI v9)), (0, .ref mo), (1, .int (iI x)), (2, .int (iI y))]) hx hb dMo_power_183 hl (by decide) rfl (fun ls hl => ?_)
                    obtain ⟨tt, e_tt⟩ : ∃ z : Int, z = t9 := ⟨_, rfl⟩
                    have hl : lv_has ls 8 [(7, .int (iI tt)), (6, .int (iI s6)), (5, .int (iI (n9 * (mC x)))), (4, .int (iI n9)), (3, .int (iI v9)), (0, .ref mo), (1, .int (iI x)), (2, .int (iI y))] := by rw [e_tt]; exact hl
                    have htt : tt = min (ab yb.v * xa.sc) (max kk xa.sc) := by omega
                    refine lv_aload_n hx hb dMo_power_185 rfl (lv_at hl 5 rfl) ?_
                    refine lv_iconst (v := iI 0) hx hb dMo_power_186 rfl ?_
                    refine lv_iload hx hb dMo_power_187 (lv_at hl 2 rfl) ?_
                    refine lv_iload hx hb dMo_power_189 (lv_at hl 0 rfl) ?_
                    refine iv_isub hx hb dMo_power_191 ?_
                    refine cv_v (va_runV (C := "MacroReckonerModel") (As := [.int (iI 0), .int (iI ((n9 * (mC x)) - tt))]) (rest := []) ⟨hx, hb, hml, hown, hts⟩ (cMo_cut l dC dI dA mo ft lf hg kk tx pn tk fm tO tl mI mT mS mC mL mB mF mU mX mP mK D9 Z9 0 ((n9 * (mC x)) - tt) (PW (ab xa.v) (ab yb.v)) (by omega) (by omega) (by exact hJ) H.size) (cwV 2 hts (gdV wt5_29 wt5_31 ws5_4 wt1_8 wt5_32) rfl rfl rfl ⟨rfl, by decide, by decide, by decide +kernel⟩ ⟨by decide, by decide⟩) (preV (q := ("MacroReckonerModel", TMo, 23)) hK hP hD hS hA XN_ok trivial [0, 1, 2, 3, 4, 5, 6, 7, 8, 9, 10, 11, 12, 13] rfl rfl 0 rfl rfl) rfl rfl hl.1 rfl (lv_room (Nat.le_of_ble_eq_true rfl)) dMo_power_192 ⟨Nat.zero_le _, Nat.zero_le _⟩) hP hD hS hA [0, 1, 2, 3, 4, 5, 6, 7, 8, 9, 10, 11, 12, 13] [] rfl (fun v_ => wMo dA mo ft lf hg kk tx pn tk fm tO tl mI mT mS mC mL mB mF mU mX mP mK v_.1 v_.2 []) (fun _ => rfl) ([] : va_W) rfl (fun _ => rfl) [mo, mo + 1, mo + 2, mo + 3, mo + 4, mo + 5, mo + 6, mo + 7, mo + 8, mo + 9, mo + 10, mo + 11, mo + 12, mo + 13] rfl (fun _ => rfl) (fun _ => rfl) (fun u_ H locs hq192 hP hD hS => ?_)
                    obtain ⟨D1_192, Z1_192⟩ := u_
                    have hP : va_P (dC, dI) vwCl (wMo dA mo ft lf hg kk tx pn tk fm tO tl mI mT mS mC mL mB mF mU mX mP mK D1_192 Z1_192 []) H := hP
                    have hD : va_D A (wMo dA mo ft lf hg kk tx pn tk fm tO tl mI mT mS mC mL mB mF mU mX mP mK D1_192 Z1_192 []) := hD
                    have hq192 : MR D1_192 Z1_192 0 ((PW (ab xa.v) (ab yb.v)) / PW 10 ((n9 * (mC x)) - tt)) ∧ others D9 Z9 D1_192 Z1_192 0 := hq192
                    rw [hex3, htt] at hq192
                    refine lv_aload_n hx hb dMo_power_195 rfl (lv_at hl 5 rfl) ?_
                    refine lv_iconst (v := iI 0) hx hb dMo_power_196 rfl ?_
                    refine lv_iload hx hb dMo_power_197 (lv_at hl 1 rfl) ?_
                    refine lv_iload hx hb dMo_power_199 (lv_at hl 0 rfl) ?_
                    refine cv_i (va_runV (C := "MacroReckonerModel") (As := [.int (iI 0), .int (iI s6), .int (iI tt)]) (rest := []) ⟨hx, hb, hml, hown, hts⟩ (cMo_make l dC dI dA mo ft lf hg kk tx pn tk fm tO tl mI mT mS mC mL mB mF mU mX mP mK D1_192 Z1_192 0 s6 tt (PW (ab xa.v) (ab yb.v) / PW 10 (ab yb.v * xa.sc - min (ab yb.v * xa.sc) (max kk xa.sc))) (szn (if ab yb.v % 2 = 1 then xa.v else 1) (PW (ab xa.v) (ab yb.v) / PW 10 (ab yb.v * xa.sc - min (ab yb.v * xa.sc) (max kk xa.sc)))) (by omega) (by exact hq192.1) (by exact (sp_e hSx ab_nn (hn9 ▸ hs6) (fun h1 h2 => by rw [h2, show ab 0 = 0 from rfl, PW_zz (by omega), Int.zero_ediv])).2) (by omega) (by exact (sp_e hSx ab_nn (hn9 ▸ hs6) (fun h1 h2 => by rw [h2, show ab 0 = 0 from rfl, PW_zz (by omega), Int.zero_ediv])).1) H.size) (cwV 3 hts (gdV wt4_195 wt4_197 ws4_3 wt1_8 wt4_198) rfl rfl rfl ⟨rfl, by decide, by decide, by decide +kernel⟩ ⟨by decide, by decide⟩) (preV (q := ("MacroReckonerModel", TMo, 23)) hK hP hD hS hA XN_ok trivial [0, 1, 2, 3, 4, 5, 6, 7, 8, 9, 10, 11, 12, 13] rfl rfl 0 rfl rfl) rfl rfl hl.1 rfl (lv_room (Nat.le_of_ble_eq_true rfl)) dMo_power_201 ⟨Nat.zero_le _, Nat.zero_le _⟩) hP hD hS hA [0, 1, 2, 3, 4, 5, 6, 7, 8, 9, 10, 11, 12, 13] [] rfl (fun v_ => wMo dA mo ft lf hg kk tx pn tk fm tO tl mI v_.1 v_.2.1 v_.2.2.1 v_.2.2.2.1 v_.2.2.2.2 mF mU mX mP mK D1_192 Z1_192 []) (fun _ => rfl) ([] : va_W) rfl (fun _ => rfl) [mo, mo + 1, mo + 2, mo + 3, mo + 4, mo + 5, mo + 6, mo + 7, mo + 8, mo + 9, mo + 10, mo + 11, mo + 12, mo + 13] rfl (fun _ => rfl) (fun _ => rfl) (fun r201 u_ H locs hq201 hP hD hS => ?_)
                    obtain ⟨T1_201, S1_201, C1_201, L1_201, B1_201⟩ := u_
                    have hP : va_P (dC, dI) vwCl (wMo dA mo ft lf hg kk tx pn tk fm tO tl mI T1_201 S1_201 C1_201 L1_201 B1_201 mF mU mX mP mK D1_192 Z1_192 []) H := hP
                    have hD : va_D A (wMo dA mo ft lf hg kk tx pn tk fm tO tl mI T1_201 S1_201 C1_201 L1_201 B1_201 mF mU mX mP mK D1_192 Z1_192 []) := hD
                    have hq201 : mres r201 (szn (if ab yb.v % 2 = 1 then xa.v else 1) (PW (ab xa.v) (ab yb.v) / PW 10 (ab yb.v * xa.sc - min (ab yb.v * xa.sc) (max kk xa.sc)))) tt T1_201 S1_201 C1_201 L1_201 B1_201 ∧ thO mT mS mC mL mB T1_201 S1_201 C1_201 L1_201 B1_201 46 := hq201
                    exact rt_i hx hb hr hlocks hK hS dMo_power_204 (T1_201, S1_201, C1_201, L1_201, B1_201, D1_192, Z1_192) hP hD (show (((0 < yb.sc ∨ 100 ≤ ab yb.v) ∧ r201 = -4) ∨ (yb.sc = 0 ∧ ab yb.v < 100 ∧ ((yb.v < 0 ∧ xa.v = 0 ∧ r201 = -5) ∨ (¬ (yb.v < 0 ∧ xa.v = 0) ∧ (((200 < ab yb.v * xa.sc ∨ PW 10 200 ≤ PW (ab xa.v) (ab yb.v)) ∧ r201 = -7) ∨ (ab yb.v * xa.sc ≤ 200 ∧ PW (ab xa.v) (ab yb.v) < PW 10 200 ∧ ((yb.v < 0 ∧ mres r201 (szn (if ab yb.v % 2 = 1 then xa.v else 1) (PW 10 (ab yb.v * xa.sc + kk) / PW (ab xa.v) (ab yb.v))) kk T1_201 S1_201 C1_201 L1_201 B1_201) ∨ (0 ≤ yb.v ∧ mres r201 (szn (if ab yb.v % 2 = 1 then xa.v else 1) (PW (ab xa.v) (ab yb.v) / PW 10 (ab yb.v * xa.sc - min (ab yb.v * xa.sc) (max kk xa.sc)))) (min (ab yb.v * xa.sc) (max kk xa.sc)) T1_201 S1_201 C1_201 L1_201 B1_201)))))))) ∧ thO mT mS mC mL mB T1_201 S1_201 C1_201 L1_201 B1_201 46 from by rw [htt] at hq201; exact ⟨Or.inr ⟨hsl.1, hsl.2.1, Or.inr ⟨hnx, Or.inr ⟨by omega, hlt9, Or.inr ⟨by omega, hq201.1⟩⟩⟩⟩, hq201.2⟩)
                · refine lv_iconst (v := iI 1) hx hb dMo_power_138 rfl ?_
                  refine lv_goto (tgt := 148) hx hb dMo_power_139 (by decide) ?_
                  refine lv_istore (lv' := [(6, .int (iI 1)), (5, .int (iI (n9 * (mC x)))), (4, .int (iI n9)), (3, .int (iI v9)), (0, .ref mo), (1, .int (iI x)), (2, .int (iI y))]) hx hb dMo_power_148 hl (by decide) rfl (fun ls hl => ?_)
                  obtain ⟨s6, e_s6⟩ : ∃ z : Int, z = 1 := ⟨_, rfl⟩
                  have hl : lv_has ls 8 [(6, .int (iI s6)), (5, .int (iI (n9 * (mC x)))), (4, .int (iI n9)), (3, .int (iI v9)), (0, .ref mo), (1, .int (iI x)), (2, .int (iI y))] := by rw [e_s6]; exact hl
                  have hs6 : (n9 % 2 = 0 ∧ s6 = 1) ∨ (n9 % 2 ≠ 0 ∧ s6 = mS x) := by omega
                  have hjn : j = ab yb.v := by omega
                  rw [hjn] at hJ
                  have hlt9 := DL_lt (M_dl hJ) (show Z9 0 ≤ 200 by omega)
                  refine lv_iload_n hx hb dMo_power_150 rfl (lv_at hl 3 rfl) ?_
                  refine iv_if_lt (tgt := 205) hx hb dMo_power_151 (by decide) ⟨by omega, by omega⟩ (fun hc151 => absurd hc151 (by omega)) (fun hc151 => ?_)
                  refine lv_aload_n hx hb dMo_power_154 rfl (lv_at hl 4 rfl) ?_
                  refine va_get (D := (dC, dI)) (ci := 7) (v := .int (iI kk)) (C := "MacroReckonerModel") (T := TMo) (N := 23) hx hb hts inMo hown hK hP 0 rfl rfl 9 (by decide) (hts _ wt4_67) (fun _ h9 => h9) rfl dMo_power_155 ?_
                  refine lv_aload_n hx hb dMo_power_158 rfl (lv_at hl 4 rfl) ?_
                  refine va_get (D := (dC, dI)) (ci := 7) (v := .ref (mo + 4)) (C := "MacroReckonerModel") (T := TMo) (N := 23) hx hb hts inMo hown hK hP 0 rfl rfl 5 (by decide) (hts _ wt4_63) (fun _ h9 => h9) rfl dMo_power_159 ?_
                  refine lv_iload_n hx hb dMo_power_162 rfl (lv_at hl 5 rfl) ?_
                  refine iv_iald hx hb hK hP 4 0 rfl rfl (by decide) dMo_power_163 (by omega) (by omega) ?_
                  refine cv_i (va_runS (As := [.int (iI kk), .int (iI (mC x))]) (rest := []) ⟨hx, hb, hml, hown, hts⟩ (cMo_greater l dC dI dA kk (mC x) (by omega) H.size) (cwS 2 hts (gdS wt4_223 wt4_224 wt1_8 wt4_225) rfl rfl rfl ⟨rfl, by decide, by decide, by decide +kernel⟩ ⟨by decide, by decide⟩) (preS hK hP hD hS hA XN_ok trivial [] rfl rfl) rfl rfl hl.1 rfl (lv_room (Nat.le_of_ble_eq_true rfl)) dMo_power_164 ⟨Nat.zero_le _, Nat.zero_le _⟩) hP hD hS hA [] [0, 1, 2, 3, 4, 5, 6, 7, 8, 9, 10, 11, 12, 13] rfl (fun v_ => wMo dA mo ft lf hg kk tx pn tk fm tO tl mI mT mS mC mL mB mF mU mX mP mK D9 Z9 []) (fun _ => rfl) (wMo dA mo ft lf hg kk tx pn tk fm tO tl mI mT mS mC mL mB mF mU mX mP mK D9 Z9 []) rfl (fun _ => rfl) [mo, mo + 1, mo + 2, mo + 3, mo + 4, mo + 5, mo + 6, mo + 7, mo + 8, mo + 9, mo + 10, mo + 11, mo + 12, mo + 13] rfl (fun _ => rfl) (fun _ => rfl) (fun t9 u_ H locs hq164 hP hD hS => ?_)
                  have hP : va_P (dC, dI) vwCl (wMo dA mo ft lf hg kk tx pn tk fm tO tl mI mT mS mC mL mB mF mU mX mP mK D9 Z9 []) H := hP
                  have hD : va_D A (wMo dA mo ft lf hg kk tx pn tk fm tO tl mI mT mS mC mL mB mF mU mX mP mK D9 Z9 []) := hD
                  have hq164 : t9 = max kk (mC x) := hq164
                  refine lv_istore (lv' := [(7, .int (iI t9)), (6, .int (iI s6)), (5, .int (iI (n9 * (mC x)))), (4, .int (iI n9)), (3, .int (iI v9)), (0, .ref mo), (1, .int (iI x)), (2, .int (iI y))]) hx hb dMo_power_167 hl (by decide) rfl (fun ls hl => ?_)
                  refine lv_iload hx hb dMo_power_169 (lv_at hl 0 rfl) ?_
                  refine lv_iload hx hb dMo_power_171 (lv_at hl 2 rfl) ?_
                  refine iv_icmp_ge (tgt := 181) hx hb dMo_power_173 (by decide) ⟨by omega, by omega⟩ ⟨by omega, by omega⟩ (fun hc173 => ?_) (fun hc173 => ?_)
                  · refine lv_iload hx hb dMo_power_181 (lv_at hl 2 rfl) ?_
                    refine lv_istore (lv' := [(7, .int (iI (n9 * (mC x)))), (6, .int (iI s6)), (5, .int (iI (n9 * (mC x)))), (4, .int (iI n9)), (3, .int (iI v9)), (0, .ref mo), (1, .int (iI x)), (2, .int (iI y))]) hx hb dMo_power_183 hl (by decide) rfl (fun ls hl => ?_)
                    obtain ⟨tt, e_tt⟩ : ∃ z : Int, z = n9 * (mC x) := ⟨_, rfl⟩
                    have hl : lv_has ls 8 [(7, .int (iI tt)), (6, .int (iI s6)), (5, .int (iI (n9 * (mC x)))), (4, .int (iI n9)), (3, .int (iI v9)), (0, .ref mo), (1, .int (iI x)), (2, .int (iI y))] := by rw [e_tt]; exact hl
                    have htt : tt = min (ab yb.v * xa.sc) (max kk xa.sc) := by omega
                    refine lv_aload_n hx hb dMo_power_185 rfl (lv_at hl 5 rfl) ?_
                    refine lv_iconst (v := iI 0) hx hb dMo_power_186 rfl ?_
                    refine lv_iload hx hb dMo_power_187 (lv_at hl 2 rfl) ?_
                    refine lv_iload hx hb dMo_power_189 (lv_at hl 0 rfl) ?_
                    refine iv_isub hx hb dMo_power_191 ?_
                    refine cv_v (va_runV (C := "MacroReckonerModel") (As := [.int (iI 0), .int (iI ((n9 * (mC x)) - tt))]) (rest := []) ⟨hx, hb, hml, hown, hts⟩ (cMo_cut l dC dI dA mo ft lf hg kk tx pn tk fm tO tl mI mT mS mC mL mB mF mU mX mP mK D9 Z9 0 ((n9 * (mC x)) - tt) (PW (ab xa.v) (ab yb.v)) (by omega) (by omega) (by exact hJ) H.size) (cwV 2 hts (gdV wt5_29 wt5_31 ws5_4 wt1_8 wt5_32) rfl rfl rfl ⟨rfl, by decide, by decide, by decide +kernel⟩ ⟨by decide, by decide⟩) (preV (q := ("MacroReckonerModel", TMo, 23)) hK hP hD hS hA XN_ok trivial [0, 1, 2, 3, 4, 5, 6, 7, 8, 9, 10, 11, 12, 13] rfl rfl 0 rfl rfl) rfl rfl hl.1 rfl (lv_room (Nat.le_of_ble_eq_true rfl)) dMo_power_192 ⟨Nat.zero_le _, Nat.zero_le _⟩) hP hD hS hA [0, 1, 2, 3, 4, 5, 6, 7, 8, 9, 10, 11, 12, 13] [] rfl (fun v_ => wMo dA mo ft lf hg kk tx pn tk fm tO tl mI mT mS mC mL mB mF mU mX mP mK v_.1 v_.2 []) (fun _ => rfl) ([] : va_W) rfl (fun _ => rfl) [mo, mo + 1, mo + 2, mo + 3, mo + 4, mo + 5, mo + 6, mo + 7, mo + 8, mo + 9, mo + 10, mo + 11, mo + 12, mo + 13] rfl (fun _ => rfl) (fun _ => rfl) (fun u_ H locs hq192 hP hD hS => ?_)
                    obtain ⟨D1_192, Z1_192⟩ := u_
                    have hP : va_P (dC, dI) vwCl (wMo dA mo ft lf hg kk tx pn tk fm tO tl mI mT mS mC mL mB mF mU mX mP mK D1_192 Z1_192 []) H := hP
                    have hD : va_D A (wMo dA mo ft lf hg kk tx pn tk fm tO tl mI mT mS mC mL mB mF mU mX mP mK D1_192 Z1_192 []) := hD
                    have hq192 : MR D1_192 Z1_192 0 ((PW (ab xa.v) (ab yb.v)) / PW 10 ((n9 * (mC x)) - tt)) ∧ others D9 Z9 D1_192 Z1_192 0 := hq192
                    rw [hex3, htt] at hq192
                    refine lv_aload_n hx hb dMo_power_195 rfl (lv_at hl 5 rfl) ?_
                    refine lv_iconst (v := iI 0) hx hb dMo_power_196 rfl ?_
                    refine lv_iload hx hb dMo_power_197 (lv_at hl 1 rfl) ?_
                    refine lv_iload hx hb dMo_power_199 (lv_at hl 0 rfl) ?_
                    refine cv_i (va_runV (C := "MacroReckonerModel") (As := [.int (iI 0), .int (iI s6), .int (iI tt)]) (rest := []) ⟨hx, hb, hml, hown, hts⟩ (cMo_make l dC dI dA mo ft lf hg kk tx pn tk fm tO tl mI mT mS mC mL mB mF mU mX mP mK D1_192 Z1_192 0 s6 tt (PW (ab xa.v) (ab yb.v) / PW 10 (ab yb.v * xa.sc - min (ab yb.v * xa.sc) (max kk xa.sc))) (szn (if ab yb.v % 2 = 1 then xa.v else 1) (PW (ab xa.v) (ab yb.v) / PW 10 (ab yb.v * xa.sc - min (ab yb.v * xa.sc) (max kk xa.sc)))) (by omega) (by exact hq192.1) (by exact (sp_e hSx ab_nn (hn9 ▸ hs6) (fun h1 h2 => by rw [h2, show ab 0 = 0 from rfl, PW_zz (by omega), Int.zero_ediv])).2) (by omega) (by exact (sp_e hSx ab_nn (hn9 ▸ hs6) (fun h1 h2 => by rw [h2, show ab 0 = 0 from rfl, PW_zz (by omega), Int.zero_ediv])).1) H.size) (cwV 3 hts (gdV wt4_195 wt4_197 ws4_3 wt1_8 wt4_198) rfl rfl rfl ⟨rfl, by decide, by decide, by decide +kernel⟩ ⟨by decide, by decide⟩) (preV (q := ("MacroReckonerModel", TMo, 23)) hK hP hD hS hA XN_ok trivial [0, 1, 2, 3, 4, 5, 6, 7, 8, 9, 10, 11, 12, 13] rfl rfl 0 rfl rfl) rfl rfl hl.1 rfl (lv_room (Nat.le_of_ble_eq_true rfl)) dMo_power_201 ⟨Nat.zero_le _, Nat.zero_le _⟩) hP hD hS hA [0, 1, 2, 3, 4, 5, 6, 7, 8, 9, 10, 11, 12, 13] [] rfl (fun v_ => wMo dA mo ft lf hg kk tx pn tk fm tO tl mI v_.1 v_.2.1 v_.2.2.1 v_.2.2.2.1 v_.2.2.2.2 mF mU mX mP mK D1_192 Z1_192 []) (fun _ => rfl) ([] : va_W) rfl (fun _ => rfl) [mo, mo + 1, mo + 2, mo + 3, mo + 4, mo + 5, mo + 6, mo + 7, mo + 8, mo + 9, mo + 10, mo + 11, mo + 12, mo + 13] rfl (fun _ => rfl) (fun _ => rfl) (fun r201 u_ H locs hq201 hP hD hS => ?_)
                    obtain ⟨T1_201, S1_201, C1_201, L1_201, B1_201⟩ := u_
                    have hP : va_P (dC, dI) vwCl (wMo dA mo ft lf hg kk tx pn tk fm tO tl mI T1_201 S1_201 C1_201 L1_201 B1_201 mF mU mX mP mK D1_192 Z1_192 []) H := hP
                    have hD : va_D A (wMo dA mo ft lf hg kk tx pn tk fm tO tl mI T1_201 S1_201 C1_201 L1_201 B1_201 mF mU mX mP mK D1_192 Z1_192 []) := hD
                    have hq201 : mres r201 (szn (if ab yb.v % 2 = 1 then xa.v else 1) (PW (ab xa.v) (ab yb.v) / PW 10 (ab yb.v * xa.sc - min (ab yb.v * xa.sc) (max kk xa.sc)))) tt T1_201 S1_201 C1_201 L1_201 B1_201 ∧ thO mT mS mC mL mB T1_201 S1_201 C1_201 L1_201 B1_201 46 := hq201
                    exact rt_i hx hb hr hlocks hK hS dMo_power_204 (T1_201, S1_201, C1_201, L1_201, B1_201, D1_192, Z1_192) hP hD (show (((0 < yb.sc ∨ 100 ≤ ab yb.v) ∧ r201 = -4) ∨ (yb.sc = 0 ∧ ab yb.v < 100 ∧ ((yb.v < 0 ∧ xa.v = 0 ∧ r201 = -5) ∨ (¬ (yb.v < 0 ∧ xa.v = 0) ∧ (((200 < ab yb.v * xa.sc ∨ PW 10 200 ≤ PW (ab xa.v) (ab yb.v)) ∧ r201 = -7) ∨ (ab yb.v * xa.sc ≤ 200 ∧ PW (ab xa.v) (ab yb.v) < PW 10 200 ∧ ((yb.v < 0 ∧ mres r201 (szn (if ab yb.v % 2 = 1 then xa.v else 1) (PW 10 (ab yb.v * xa.sc + kk) / PW (ab xa.v) (ab yb.v))) kk T1_201 S1_201 C1_201 L1_201 B1_201) ∨ (0 ≤ yb.v ∧ mres r201 (szn (if ab yb.v % 2 = 1 then xa.v else 1) (PW (ab xa.v) (ab yb.v) / PW 10 (ab yb.v * xa.sc - min (ab yb.v * xa.sc) (max kk xa.sc)))) (min (ab yb.v * xa.sc) (max kk xa.sc)) T1_201 S1_201 C1_201 L1_201 B1_201)))))))) ∧ thO mT mS mC mL mB T1_201 S1_201 C1_201 L1_201 B1_201 46 from by rw [htt] at hq201; exact ⟨Or.inr ⟨hsl.1, hsl.2.1, Or.inr ⟨hnx, Or.inr ⟨by omega, hlt9, Or.inr ⟨by omega, hq201.1⟩⟩⟩⟩, hq201.2⟩)
                  · refine lv_iload hx hb dMo_power_176 (lv_at hl 0 rfl) ?_
                    refine lv_goto (tgt := 183) hx hb dMo_power_178 (by decide) ?_
                    refine lv_istore (lv' := [(7, .int (iI t9)), (6, .int (iI s6)), (5, .int (iI (n9 * (mC x)))), (4, .int (iI n9)), (3, .int (iI v9)), (0, .ref mo), (1, .int (iI x)), (2, .int (iI y))]) hx hb dMo_power_183 hl (by decide) rfl (fun ls hl => ?_)
                    obtain ⟨tt, e_tt⟩ : ∃ z : Int, z = t9 := ⟨_, rfl⟩
                    have hl : lv_has ls 8 [(7, .int (iI tt)), (6, .int (iI s6)), (5, .int (iI (n9 * (mC x)))), (4, .int (iI n9)), (3, .int (iI v9)), (0, .ref mo), (1, .int (iI x)), (2, .int (iI y))] := by rw [e_tt]; exact hl
                    have htt : tt = min (ab yb.v * xa.sc) (max kk xa.sc) := by omega
                    refine lv_aload_n hx hb dMo_power_185 rfl (lv_at hl 5 rfl) ?_
                    refine lv_iconst (v := iI 0) hx hb dMo_power_186 rfl ?_
                    refine lv_iload hx hb dMo_power_187 (lv_at hl 2 rfl) ?_
                    refine lv_iload hx hb dMo_power_189 (lv_at hl 0 rfl) ?_
                    refine iv_isub hx hb dMo_power_191 ?_
                    refine cv_v (va_runV (C := "MacroReckonerModel") (As := [.int (iI 0), .int (iI ((n9 * (mC x)) - tt))]) (rest := []) ⟨hx, hb, hml, hown, hts⟩ (cMo_cut l dC dI dA mo ft lf hg kk tx pn tk fm tO tl mI mT mS mC mL mB mF mU mX mP mK D9 Z9 0 ((n9 * (mC x)) - tt) (PW (ab xa.v) (ab yb.v)) (by omega) (by omega) (by exact hJ) H.size) (cwV 2 hts (gdV wt5_29 wt5_31 ws5_4 wt1_8 wt5_32) rfl rfl rfl ⟨rfl, by decide, by decide, by decide +kernel⟩ ⟨by decide, by decide⟩) (preV (q := ("MacroReckonerModel", TMo, 23)) hK hP hD hS hA XN_ok trivial [0, 1, 2, 3, 4, 5, 6, 7, 8, 9, 10, 11, 12, 13] rfl rfl 0 rfl rfl) rfl rfl hl.1 rfl (lv_room (Nat.le_of_ble_eq_true rfl)) dMo_power_192 ⟨Nat.zero_le _, Nat.zero_le _⟩) hP hD hS hA [0, 1, 2, 3, 4, 5, 6, 7, 8, 9, 10, 11, 12, 13] [] rfl (fun v_ => wMo dA mo ft lf hg kk tx pn tk fm tO tl mI mT mS mC mL mB mF mU mX mP mK v_.1 v_.2 []) (fun _ => rfl) ([] : va_W) rfl (fun _ => rfl) [mo, mo + 1, mo + 2, mo + 3, mo + 4, mo + 5, mo + 6, mo + 7, mo + 8, mo + 9, mo + 10, mo + 11, mo + 12, mo + 13] rfl (fun _ => rfl) (fun _ => rfl) (fun u_ H locs hq192 hP hD hS => ?_)
                    obtain ⟨D1_192, Z1_192⟩ := u_
                    have hP : va_P (dC, dI) vwCl (wMo dA mo ft lf hg kk tx pn tk fm tO tl mI mT mS mC mL mB mF mU mX mP mK D1_192 Z1_192 []) H := hP
                    have hD : va_D A (wMo dA mo ft lf hg kk tx pn tk fm tO tl mI mT mS mC mL mB mF mU mX mP mK D1_192 Z1_192 []) := hD
                    have hq192 : MR D1_192 Z1_192 0 ((PW (ab xa.v) (ab yb.v)) / PW 10 ((n9 * (mC x)) - tt)) ∧ others D9 Z9 D1_192 Z1_192 0 := hq192
                    rw [hex3, htt] at hq192
                    refine lv_aload_n hx hb dMo_power_195 rfl (lv_at hl 5 rfl) ?_
                    refine lv_iconst (v := iI 0) hx hb dMo_power_196 rfl ?_
                    refine lv_iload hx hb dMo_power_197 (lv_at hl 1 rfl) ?_
                    refine lv_iload hx hb dMo_power_199 (lv_at hl 0 rfl) ?_
                    refine cv_i (va_runV (C := "MacroReckonerModel") (As := [.int (iI 0), .int (iI s6), .int (iI tt)]) (rest := []) ⟨hx, hb, hml, hown, hts⟩ (cMo_make l dC dI dA mo ft lf hg kk tx pn tk fm tO tl mI mT mS mC mL mB mF mU mX mP mK D1_192 Z1_192 0 s6 tt (PW (ab xa.v) (ab yb.v) / PW 10 (ab yb.v * xa.sc - min (ab yb.v * xa.sc) (max kk xa.sc))) (szn (if ab yb.v % 2 = 1 then xa.v else 1) (PW (ab xa.v) (ab yb.v) / PW 10 (ab yb.v * xa.sc - min (ab yb.v * xa.sc) (max kk xa.sc)))) (by omega) (by exact hq192.1) (by exact (sp_e hSx ab_nn (hn9 ▸ hs6) (fun h1 h2 => by rw [h2, show ab 0 = 0 from rfl, PW_zz (by omega), Int.zero_ediv])).2) (by omega) (by exact (sp_e hSx ab_nn (hn9 ▸ hs6) (fun h1 h2 => by rw [h2, show ab 0 = 0 from rfl, PW_zz (by omega), Int.zero_ediv])).1) H.size) (cwV 3 hts (gdV wt4_195 wt4_197 ws4_3 wt1_8 wt4_198) rfl rfl rfl ⟨rfl, by decide, by decide, by decide +kernel⟩ ⟨by decide, by decide⟩) (preV (q := ("MacroReckonerModel", TMo, 23)) hK hP hD hS hA XN_ok trivial [0, 1, 2, 3, 4, 5, 6, 7, 8, 9, 10, 11, 12, 13] rfl rfl 0 rfl rfl) rfl rfl hl.1 rfl (lv_room (Nat.le_of_ble_eq_true rfl)) dMo_power_201 ⟨Nat.zero_le _, Nat.zero_le _⟩) hP hD hS hA [0, 1, 2, 3, 4, 5, 6, 7, 8, 9, 10, 11, 12, 13] [] rfl (fun v_ => wMo dA mo ft lf hg kk tx pn tk fm tO tl mI v_.1 v_.2.1 v_.2.2.1 v_.2.2.2.1 v_.2.2.2.2 mF mU mX mP mK D1_192 Z1_192 []) (fun _ => rfl) ([] : va_W) rfl (fun _ => rfl) [mo, mo + 1, mo + 2, mo + 3, mo + 4, mo + 5, mo + 6, mo + 7, mo + 8, mo + 9, mo + 10, mo + 11, mo + 12, mo + 13] rfl (fun _ => rfl) (fun _ => rfl) (fun r201 u_ H locs hq201 hP hD hS => ?_)
                    obtain ⟨T1_201, S1_201, C1_201, L1_201, B1_201⟩ := u_
                    have hP : va_P (dC, dI) vwCl (wMo dA mo ft lf hg kk tx pn tk fm tO tl mI T1_201 S1_201 C1_201 L1_201 B1_201 mF mU mX mP mK D1_192 Z1_192 []) H := hP
                    have hD : va_D A (wMo dA mo ft lf hg kk tx pn tk fm tO tl mI T1_201 S1_201 C1_201 L1_201 B1_201 mF mU mX mP mK D1_192 Z1_192 []) := hD
                    have hq201 : mres r201 (szn (if ab yb.v % 2 = 1 then xa.v else 1) (PW (ab xa.v) (ab yb.v) / PW 10 (ab yb.v * xa.sc - min (ab yb.v * xa.sc) (max kk xa.sc)))) tt T1_201 S1_201 C1_201 L1_201 B1_201 ∧ thO mT mS mC mL mB T1_201 S1_201 C1_201 L1_201 B1_201 46 := hq201
                    exact rt_i hx hb hr hlocks hK hS dMo_power_204 (T1_201, S1_201, C1_201, L1_201, B1_201, D1_192, Z1_192) hP hD (show (((0 < yb.sc ∨ 100 ≤ ab yb.v) ∧ r201 = -4) ∨ (yb.sc = 0 ∧ ab yb.v < 100 ∧ ((yb.v < 0 ∧ xa.v = 0 ∧ r201 = -5) ∨ (¬ (yb.v < 0 ∧ xa.v = 0) ∧ (((200 < ab yb.v * xa.sc ∨ PW 10 200 ≤ PW (ab xa.v) (ab yb.v)) ∧ r201 = -7) ∨ (ab yb.v * xa.sc ≤ 200 ∧ PW (ab xa.v) (ab yb.v) < PW 10 200 ∧ ((yb.v < 0 ∧ mres r201 (szn (if ab yb.v % 2 = 1 then xa.v else 1) (PW 10 (ab yb.v * xa.sc + kk) / PW (ab xa.v) (ab yb.v))) kk T1_201 S1_201 C1_201 L1_201 B1_201) ∨ (0 ≤ yb.v ∧ mres r201 (szn (if ab yb.v % 2 = 1 then xa.v else 1) (PW (ab xa.v) (ab yb.v) / PW 10 (ab yb.v * xa.sc - min (ab yb.v * xa.sc) (max kk xa.sc)))) (min (ab yb.v * xa.sc) (max kk xa.sc)) T1_201 S1_201 C1_201 L1_201 B1_201)))))))) ∧ thO mT mS mC mL mB T1_201 S1_201 C1_201 L1_201 B1_201 46 from by rw [htt] at hq201; exact ⟨Or.inr ⟨hsl.1, hsl.2.1, Or.inr ⟨hnx, Or.inr ⟨by omega, hlt9, Or.inr ⟨by omega, hq201.1⟩⟩⟩⟩, hq201.2⟩)
              · refine lv_bipush (v := iI (-7)) hx hb dMo_power_128 (by decide) ?_
                exact rt_i hx hb hr hlocks hK hS dMo_power_130 (mT, mS, mC, mL, mB, D9, Z9) hP hD (show (((0 < yb.sc ∨ 100 ≤ ab yb.v) ∧ (-7) = -4) ∨ (yb.sc = 0 ∧ ab yb.v < 100 ∧ ((yb.v < 0 ∧ xa.v = 0 ∧ (-7) = -5) ∨ (¬ (yb.v < 0 ∧ xa.v = 0) ∧ (((200 < ab yb.v * xa.sc ∨ PW 10 200 ≤ PW (ab xa.v) (ab yb.v)) ∧ (-7) = -7) ∨ (ab yb.v * xa.sc ≤ 200 ∧ PW (ab xa.v) (ab yb.v) < PW 10 200 ∧ ((yb.v < 0 ∧ mres (-7) (szn (if ab yb.v % 2 = 1 then xa.v else 1) (PW 10 (ab yb.v * xa.sc + kk) / PW (ab xa.v) (ab yb.v))) kk mT mS mC mL mB) ∨ (0 ≤ yb.v ∧ mres (-7) (szn (if ab yb.v % 2 = 1 then xa.v else 1) (PW (ab xa.v) (ab yb.v) / PW 10 (ab yb.v * xa.sc - min (ab yb.v * xa.sc) (max kk xa.sc)))) (min (ab yb.v * xa.sc) (max kk xa.sc)) mT mS mC mL mB)))))))) ∧ thO mT mS mC mL mB mT mS mC mL mB 46 from by refine ⟨Or.inr ⟨hsl.1, hsl.2.1, Or.inr ⟨hnx, Or.inl ⟨?_, rfl⟩⟩⟩, thO_r⟩; first | exact Or.inl (by omega) | exact Or.inr (hn9 ▸ pow_mono ab_nn hj.1 hj.2 (DL_ge (M_dl hJ) (by decide) (by omega))))
          · refine lv_aload_n hx hb dMo_power_70 rfl (lv_at hl 4 rfl) ?_
            refine va_get (D := (dC, dI)) (ci := 7) (v := .ref (mo + 13)) (C := "MacroReckonerModel") (T := TMo) (N := 23) hx hb hts inMo hown hK hP 0 rfl rfl 22 (by decide) (hts _ wt4_80) (fun _ h9 => h9) rfl dMo_power_71 ?_
            refine lv_iconst (v := iI 0) hx hb dMo_power_74 rfl ?_
            refine iv_iald hx hb hK hP 13 0 rfl rfl (by decide) dMo_power_75 (by omega) (by omega) ?_
            refine lv_sipush (v := iI 200) hx hb dMo_power_76 (by decide) ?_
            refine iv_icmp_gt (tgt := 108) hx hb dMo_power_79 (by decide) ⟨by omega, by omega⟩ ⟨by decide, by decide⟩ (fun hc79 => ?_) (fun hc79 => ?_)
            · refine lv_aload_n hx hb dMo_power_108 rfl (lv_at hl 4 rfl) ?_
              refine va_get (D := (dC, dI)) (ci := 7) (v := .ref (mo + 13)) (C := "MacroReckonerModel") (T := TMo) (N := 23) hx hb hts inMo hown hK hP 0 rfl rfl 22 (by decide) (hts _ wt4_80) (fun _ h9 => h9) rfl dMo_power_109 ?_
              refine lv_iconst (v := iI 0) hx hb dMo_power_112 rfl ?_
              refine iv_iald hx hb hK hP 13 0 rfl rfl (by decide) dMo_power_113 (by omega) (by omega) ?_
              refine lv_sipush (v := iI 200) hx hb dMo_power_114 (by decide) ?_
              refine iv_icmp_gt (tgt := 128) hx hb dMo_power_117 (by decide) ⟨by omega, by omega⟩ ⟨by decide, by decide⟩ (fun hc117 => ?_) (fun hc117 => absurd hc117 (by omega))
              refine lv_bipush (v := iI (-7)) hx hb dMo_power_128 (by decide) ?_
              exact rt_i hx hb hr hlocks hK hS dMo_power_130 (mT, mS, mC, mL, mB, D9, Z9) hP hD (show (((0 < yb.sc ∨ 100 ≤ ab yb.v) ∧ (-7) = -4) ∨ (yb.sc = 0 ∧ ab yb.v < 100 ∧ ((yb.v < 0 ∧ xa.v = 0 ∧ (-7) = -5) ∨ (¬ (yb.v < 0 ∧ xa.v = 0) ∧ (((200 < ab yb.v * xa.sc ∨ PW 10 200 ≤ PW (ab xa.v) (ab yb.v)) ∧ (-7) = -7) ∨ (ab yb.v * xa.sc ≤ 200 ∧ PW (ab xa.v) (ab yb.v) < PW 10 200 ∧ ((yb.v < 0 ∧ mres (-7) (szn (if ab yb.v % 2 = 1 then xa.v else 1) (PW 10 (ab yb.v * xa.sc + kk) / PW (ab xa.v) (ab yb.v))) kk mT mS mC mL mB) ∨ (0 ≤ yb.v ∧ mres (-7) (szn (if ab yb.v % 2 = 1 then xa.v else 1) (PW (ab xa.v) (ab yb.v) / PW 10 (ab yb.v * xa.sc - min (ab yb.v * xa.sc) (max kk xa.sc)))) (min (ab yb.v * xa.sc) (max kk xa.sc)) mT mS mC mL mB)))))))) ∧ thO mT mS mC mL mB mT mS mC mL mB 46 from by refine ⟨Or.inr ⟨hsl.1, hsl.2.1, Or.inr ⟨hnx, Or.inl ⟨?_, rfl⟩⟩⟩, thO_r⟩; first | exact Or.inl (by omega) | exact Or.inr (hn9 ▸ pow_mono ab_nn hj.1 hj.2 (DL_ge (M_dl hJ) (by decide) (by omega))))
            · refine lv_aload_n hx hb dMo_power_82 rfl (lv_at hl 4 rfl) ?_
              refine lv_iconst (v := iI 1) hx hb dMo_power_83 rfl ?_
              refine lv_iload_n hx hb dMo_power_84 rfl (lv_at hl 5 rfl) ?_
              refine lv_iconst (v := iI 0) hx hb dMo_power_85 rfl ?_
              refine cv_v (va_runV (C := "MacroReckonerModel") (As := [.int (iI 1), .int (iI x), .int (iI 0)]) (rest := []) ⟨hx, hb, hml, hown, hts⟩ (cMo_load l dC dI dA mo ft lf hg kk tx pn tk fm tO tl mI mT mS mC mL mB mF mU mX mP mK D9 Z9 1 x 0 (ab xa.v) (by omega) (by omega) (by exact hTx) H.size) (cwV 3 hts (gdV wt4_226 wt4_228 ws4_10 wt1_8 wt4_229) rfl rfl rfl ⟨rfl, by decide, by decide, by decide +kernel⟩ ⟨by decide, by decide⟩) (preV (q := ("MacroReckonerModel", TMo, 23)) hK hP hD hS hA XN_ok trivial [0, 1, 2, 3, 4, 5, 6, 7, 8, 9, 10, 11, 12, 13] rfl rfl 0 rfl rfl) rfl rfl hl.1 rfl (lv_room (Nat.le_of_ble_eq_true rfl)) dMo_power_86 ⟨Nat.zero_le _, Nat.zero_le _⟩) hP hD hS hA [0, 1, 2, 3, 4, 5, 6, 7, 8, 9, 10, 11, 12, 13] [] rfl (fun v_ => wMo dA mo ft lf hg kk tx pn tk fm tO tl mI mT mS mC mL mB mF mU mX mP mK v_.1 v_.2 []) (fun _ => rfl) ([] : va_W) rfl (fun _ => rfl) [mo, mo + 1, mo + 2, mo + 3, mo + 4, mo + 5, mo + 6, mo + 7, mo + 8, mo + 9, mo + 10, mo + 11, mo + 12, mo + 13] rfl (fun _ => rfl) (fun _ => rfl) (fun u_ H locs hq86 hP hD hS => ?_)
              obtain ⟨D1_86, Z1_86⟩ := u_
              have hP : va_P (dC, dI) vwCl (wMo dA mo ft lf hg kk tx pn tk fm tO tl mI mT mS mC mL mB mF mU mX mP mK D1_86 Z1_86 []) H := hP
              have hD : va_D A (wMo dA mo ft lf hg kk tx pn tk fm tO tl mI mT mS mC mL mB mF mU mX mP mK D1_86 Z1_86 []) := hD
              have hq86 : MR D1_86 Z1_86 1 ((ab xa.v) * PW 10 0) ∧ others D9 Z9 D1_86 Z1_86 1 := hq86
              rw [PW_0, Int.mul_one] at hq86
              have h0 := MR_o hq86.2 (by decide) hJ
              have hz1 := M_sz hq86.1 hbx.2 (by decide)
              have hz0 := hq86.2.2 0 (by decide)
              refine lv_aload_n hx hb dMo_power_89 rfl (lv_at hl 4 rfl) ?_
              refine lv_iconst (v := iI 2) hx hb dMo_power_90 rfl ?_
              refine lv_iconst (v := iI 0) hx hb dMo_power_91 rfl ?_
              refine lv_iconst (v := iI 1) hx hb dMo_power_92 rfl ?_
              refine cv_v (va_runV (C := "MacroReckonerModel") (As := [.int (iI 2), .int (iI 0), .int (iI 1)]) (rest := []) ⟨hx, hb, hml, hown, hts⟩ (cMo_multiply l dC dI dA mo ft lf hg kk tx pn tk fm tO tl mI mT mS mC mL mB mF mU mX mP mK D1_86 Z1_86 2 0 1 (PW (ab xa.v) j) (ab xa.v) (by omega) (by exact h0) (by exact hq86.1) (by omega) H.size) (cwV 3 hts (gdV wt5_25 wt5_27 ws5_3 wt1_8 wt5_28) rfl rfl rfl ⟨rfl, by decide, by decide, by decide +kernel⟩ ⟨by decide, by decide⟩) (preV (q := ("MacroReckonerModel", TMo, 23)) hK hP hD hS hA XN_ok trivial [0, 1, 2, 3, 4, 5, 6, 7, 8, 9, 10, 11, 12, 13] rfl rfl 0 rfl rfl) rfl rfl hl.1 rfl (lv_room (Nat.le_of_ble_eq_true rfl)) dMo_power_93 ⟨Nat.zero_le _, Nat.zero_le _⟩) hP hD hS hA [0, 1, 2, 3, 4, 5, 6, 7, 8, 9, 10, 11, 12, 13] [] rfl (fun v_ => wMo dA mo ft lf hg kk tx pn tk fm tO tl mI mT mS mC mL mB mF mU mX mP mK v_.1 v_.2 []) (fun _ => rfl) ([] : va_W) rfl (fun _ => rfl) [mo, mo + 1, mo + 2, mo + 3, mo + 4, mo + 5, mo + 6, mo + 7, mo + 8, mo + 9, mo + 10, mo + 11, mo + 12, mo + 13] rfl (fun _ => rfl) (fun _ => rfl) (fun u_ H locs hq93 hP hD hS => ?_)
              obtain ⟨D1_93, Z1_93⟩ := u_
              have hP : va_P (dC, dI) vwCl (wMo dA mo ft lf hg kk tx pn tk fm tO tl mI mT mS mC mL mB mF mU mX mP mK D1_93 Z1_93 []) H := hP
              have hD : va_D A (wMo dA mo ft lf hg kk tx pn tk fm tO tl mI mT mS mC mL mB mF mU mX mP mK D1_93 Z1_93 []) := hD
              have hq93 : MR D1_93 Z1_93 2 ((PW (ab xa.v) j) * (ab xa.v)) ∧ others D1_86 Z1_86 D1_93 Z1_93 2 := hq93
              refine lv_aload_n hx hb dMo_power_96 rfl (lv_at hl 4 rfl) ?_
              refine lv_iconst (v := iI 0) hx hb dMo_power_97 rfl ?_
              refine lv_iconst (v := iI 2) hx hb dMo_power_98 rfl ?_
              refine cv_v (va_runV (C := "MacroReckonerModel") (As := [.int (iI 0), .int (iI 2)]) (rest := []) ⟨hx, hb, hml, hown, hts⟩ (cMo_copy l dC dI dA mo ft lf hg kk tx pn tk fm tO tl mI mT mS mC mL mB mF mU mX mP mK D1_93 Z1_93 0 2 (PW (ab xa.v) j * ab xa.v) (by omega) (by exact hq93.1) H.size) (cwV 2 hts (gdV wt5_57 wt5_59 ws5_11 wt1_8 wt5_60) rfl rfl rfl ⟨rfl, by decide, by decide, by decide +kernel⟩ ⟨by decide, by decide⟩) (preV (q := ("MacroReckonerModel", TMo, 23)) hK hP hD hS hA XN_ok trivial [0, 1, 2, 3, 4, 5, 6, 7, 8, 9, 10, 11, 12, 13] rfl rfl 0 rfl rfl) rfl rfl hl.1 rfl (lv_room (Nat.le_of_ble_eq_true rfl)) dMo_power_99 ⟨Nat.zero_le _, Nat.zero_le _⟩) hP hD hS hA [0, 1, 2, 3, 4, 5, 6, 7, 8, 9, 10, 11, 12, 13] [] rfl (fun v_ => wMo dA mo ft lf hg kk tx pn tk fm tO tl mI mT mS mC mL mB mF mU mX mP mK v_.1 v_.2 []) (fun _ => rfl) ([] : va_W) rfl (fun _ => rfl) [mo, mo + 1, mo + 2, mo + 3, mo + 4, mo + 5, mo + 6, mo + 7, mo + 8, mo + 9, mo + 10, mo + 11, mo + 12, mo + 13] rfl (fun _ => rfl) (fun _ => rfl) (fun u_ H locs hq99 hP hD hS => ?_)
              obtain ⟨D1_99, Z1_99⟩ := u_
              have hP : va_P (dC, dI) vwCl (wMo dA mo ft lf hg kk tx pn tk fm tO tl mI mT mS mC mL mB mF mU mX mP mK D1_99 Z1_99 []) H := hP
              have hD : va_D A (wMo dA mo ft lf hg kk tx pn tk fm tO tl mI mT mS mC mL mB mF mU mX mP mK D1_99 Z1_99 []) := hD
              have hq99 : MR D1_99 Z1_99 0 (PW (ab xa.v) j * ab xa.v) ∧ others D1_93 Z1_93 D1_99 Z1_99 0 := hq99
              refine lv_iinc (k := 0) (lv' := [(6, .int (iI (j + 1))), (5, .int (iI (n9 * (mC x)))), (4, .int (iI n9)), (3, .int (iI v9)), (0, .ref mo), (1, .int (iI x)), (2, .int (iI y))]) (v := iI (j + 1)) hx hb dMo_power_102 hl rfl (iI_add _ _).symm (by decide) rfl (fun ls hl => ?_)
              refine lv_goto (tgt := 63) hx hb dMo_power_105 (by decide) ?_
              exact ih63 D1_99 Z1_99 (j + 1) H locs ls (by omega) (by rw [PW_s hj.1]; exact hq99.1) (by omega) hP hD hS (lv_sub hl [0, 1, 2, 3, 4, 5, 6] rfl)
      exact L63 _ D1_57 Z1_57 0 H locs ls (by omega) (by have h := hq57.1; rw [PW_0] at h ⊢; exact h) (Nat.lt_succ_self _) hP hD hS (lv_sub hl [0, 1, 2, 3, 4, 5, 6] rfl)
    · refine lv_aload_n hx hb dMo_power_19 rfl (lv_at hl 1 rfl) ?_
      refine va_get (D := (dC, dI)) (ci := 7) (v := .ref (mo + 3)) (C := "MacroReckonerModel") (T := TMo) (N := 23) hx hb hts inMo hown hK hP 0 rfl rfl 4 (by decide) (hts _ wt4_62) (fun _ h9 => h9) rfl dMo_power_20 ?_
      refine lv_iload_n hx hb dMo_power_23 rfl (lv_at hl 2 rfl) ?_
      refine iv_iald hx hb hK hP 3 0 rfl rfl (by decide) dMo_power_24 (by omega) (by omega) ?_
      refine iv_if_ne (tgt := 31) hx hb dMo_power_25 (by decide) ⟨by omega, by omega⟩ (fun hc25 => ?_) (fun hc25 => ?_)
      · refine lv_iload_n hx hb dMo_power_31 rfl (lv_at hl 0 rfl) ?_
        refine iv_if_ge (tgt := 40) hx hb dMo_power_32 (by decide) ⟨by omega, by omega⟩ (fun hc32 => absurd hc32 (by omega)) (fun hc32 => ?_)
        refine lv_iload_n hx hb dMo_power_35 rfl (lv_at hl 0 rfl) ?_
        refine iv_ineg hx hb dMo_power_36 ?_
        refine lv_goto (tgt := 41) hx hb dMo_power_37 (by decide) ?_
        refine lv_istore (lv' := [(4, .int (iI (-v9))), (3, .int (iI v9)), (0, .ref mo), (1, .int (iI x)), (2, .int (iI y))]) hx hb dMo_power_41 hl (by decide) rfl (fun ls hl => ?_)
        obtain ⟨n9, e_n9⟩ : ∃ z : Int, z = -v9 := ⟨_, rfl⟩
        have hl : lv_has ls 8 [(4, .int (iI n9)), (3, .int (iI v9)), (0, .ref mo), (1, .int (iI x)), (2, .int (iI y))] := by rw [e_n9]; exact hl
        have hn9 : n9 = ab yb.v := by unfold ab; omega
        have hnx : ¬ (yb.v < 0 ∧ xa.v = 0) := by omega
        refine lv_iload hx hb dMo_power_43 (lv_at hl 0 rfl) ?_
        refine lv_aload_n hx hb dMo_power_45 rfl (lv_at hl 2 rfl) ?_
        refine va_get (D := (dC, dI)) (ci := 7) (v := .ref (mo + 4)) (C := "MacroReckonerModel") (T := TMo) (N := 23) hx hb hts inMo hown hK hP 0 rfl rfl 5 (by decide) (hts _ wt4_63) (fun _ h9 => h9) rfl dMo_power_46 ?_
        refine lv_iload_n hx hb dMo_power_49 rfl (lv_at hl 3 rfl) ?_
        refine iv_iald hx hb hK hP 4 0 rfl rfl (by decide) dMo_power_50 (by omega) (by omega) ?_
        refine iv_imul hx hb dMo_power_51 ?_
        refine lv_istore (lv' := [(5, .int (iI (n9 * (mC x)))), (4, .int (iI n9)), (3, .int (iI v9)), (0, .ref mo), (1, .int (iI x)), (2, .int (iI y))]) hx hb dMo_power_52 hl (by decide) rfl (fun ls hl => ?_)
        have hex3 : n9 * mC x = ab yb.v * xa.sc := by rw [hn9, hCx]
        have hex1 := Int.mul_nonneg (show 0 ≤ ab yb.v by exact ab_nn) hscx.1
        have hex2 := Int.mul_le_mul_of_nonneg_right (show ab yb.v ≤ 99 by omega) hscx.1
        refine lv_aload_n hx hb dMo_power_54 rfl (lv_at hl 3 rfl) ?_
        refine lv_iconst (v := iI 0) hx hb dMo_power_55 rfl ?_
        refine lv_iconst (v := iI 0) hx hb dMo_power_56 rfl ?_
        refine cv_v (va_runV (C := "MacroReckonerModel") (As := [.int (iI 0), .int (iI 0)]) (rest := []) ⟨hx, hb, hml, hown, hts⟩ (cMo_unit l dC dI dA mo ft lf hg kk tx pn tk fm tO tl mI mT mS mC mL mB mF mU mX mP mK mD mZ 0 0 (by omega) (by omega) H.size) (cwV 2 hts (gdV wt5_53 wt5_55 ws5_10 wt1_8 wt5_56) rfl rfl rfl ⟨rfl, by decide, by decide, by decide +kernel⟩ ⟨by decide, by decide⟩) (preV (q := ("MacroReckonerModel", TMo, 23)) hK hP hD hS hA XN_ok trivial [0, 1, 2, 3, 4, 5, 6, 7, 8, 9, 10, 11, 12, 13] rfl rfl 0 rfl rfl) rfl rfl hl.1 rfl (lv_room (Nat.le_of_ble_eq_true rfl)) dMo_power_57 ⟨Nat.zero_le _, Nat.zero_le _⟩) hP hD hS hA [0, 1, 2, 3, 4, 5, 6, 7, 8, 9, 10, 11, 12, 13] [] rfl (fun v_ => wMo dA mo ft lf hg kk tx pn tk fm tO tl mI mT mS mC mL mB mF mU mX mP mK v_.1 v_.2 []) (fun _ => rfl) ([] : va_W) rfl (fun _ => rfl) [mo, mo + 1, mo + 2, mo + 3, mo + 4, mo + 5, mo + 6, mo + 7, mo + 8, mo + 9, mo + 10, mo + 11, mo + 12, mo + 13] rfl (fun _ => rfl) (fun _ => rfl) (fun u_ H locs hq57 hP hD hS => ?_)
        obtain ⟨D1_57, Z1_57⟩ := u_
        have hP : va_P (dC, dI) vwCl (wMo dA mo ft lf hg kk tx pn tk fm tO tl mI mT mS mC mL mB mF mU mX mP mK D1_57 Z1_57 []) H := hP
        have hD : va_D A (wMo dA mo ft lf hg kk tx pn tk fm tO tl mI mT mS mC mL mB mF mU mX mP mK D1_57 Z1_57 []) := hD
        have hq57 : MR D1_57 Z1_57 0 (PW 10 0) ∧ others mD mZ D1_57 Z1_57 0 := hq57
        refine lv_iconst (v := iI 0) hx hb dMo_power_60 rfl ?_
        refine lv_istore (lv' := [(6, .int (iI 0)), (5, .int (iI (n9 * (mC x)))), (4, .int (iI n9)), (3, .int (iI v9)), (0, .ref mo), (1, .int (iI x)), (2, .int (iI y))]) hx hb dMo_power_61 hl (by decide) rfl (fun ls hl => ?_)
        have L63 : ∀ (n : Nat) (D9 : Int → Int) (Z9 : Int → Int) (j : Int) (H : Heap) (locs : List Loc) (ls : Array Slot), (0 ≤ j ∧ j ≤ n9) → (MR D9 Z9 0 (PW (ab xa.v) j)) → (n9 - j).toNat < n → va_P (dC, dI) vwCl (wMo dA mo ft lf hg kk tx pn tk fm tO tl mI mT mS mC mL mB mF mU mX mP mK D9 Z9 []) H → va_D A (wMo dA mo ft lf hg kk tx pn tk fm tO tl mI mT mS mC mL mB mF mU mX mP mK D9 Z9 []) → va_S A s.heap H locs → lv_has ls 8 [(6, .int (iI j)), (5, .int (iI (n9 * (mC x)))), (4, .int (iI n9)), (3, .int (iI v9)), (0, .ref mo), (1, .int (iI x)), (2, .int (iI y))] → W p l e rmMo_power s m [.ref mo, .int (iI x), .int (iI y)].toArray below meth c H locs 0 0 (MQ below (qMo_power dC dI dA mo ft lf hg kk tx pn tk fm tO tl mI mT mS mC mL mB mF mU mX mP mK mD mZ x y xa yb A) [.ref mo, .int (iI x), .int (iI y)].toArray s 0 0 A) (F0 m 63 ls []) := by
          intro n
          induction n with
          | zero => intro D9 Z9 j H locs ls hj hJ hn; omega
          | succ n ih =>
            intro D9 Z9 j H locs ls hj hJ hn hP hD hS hl
            have hz9 := hJ.1.1
            have ih63 := ih
            refine lv_iload hx hb dMo_power_63 (lv_at hl 0 rfl) ?_
            refine lv_iload hx hb dMo_power_65 (lv_at hl 2 rfl) ?_
            refine iv_icmp_ge (tgt := 108) hx hb dMo_power_67 (by decide) ⟨by omega, by omega⟩ ⟨by omega, by omega⟩ (fun hc67 => ?_) (fun hc67 => ?_)
            · refine lv_aload_n hx hb dMo_power_108 rfl (lv_at hl 4 rfl) ?_
              refine va_get (D := (dC, dI)) (ci := 7) (v := .ref (mo + 13)) (C := "MacroReckonerModel") (T := TMo) (N := 23) hx hb hts inMo hown hK hP 0 rfl rfl 22 (by decide) (hts _ wt4_80) (fun _ h9 => h9) rfl dMo_power_109 ?_
              refine lv_iconst (v := iI 0) hx hb dMo_power_112 rfl ?_
              refine iv_iald hx hb hK hP 13 0 rfl rfl (by decide) dMo_power_113 (by omega) (by omega) ?_
              refine lv_sipush (v := iI 200) hx hb dMo_power_114 (by decide) ?_
              refine iv_icmp_gt (tgt := 128) hx hb dMo_power_117 (by decide) ⟨by omega, by omega⟩ ⟨by decide, by decide⟩ (fun hc117 => ?_) (fun hc117 => ?_)
              · refine lv_bipush (v := iI (-7)) hx hb dMo_power_128 (by decide) ?_
                exact rt_i hx hb hr hlocks hK hS dMo_power_130 (mT, mS, mC, mL, mB, D9, Z9) hP hD (show (((0 < yb.sc ∨ 100 ≤ ab yb.v) ∧ (-7) = -4) ∨ (yb.sc = 0 ∧ ab yb.v < 100 ∧ ((yb.v < 0 ∧ xa.v = 0 ∧ (-7) = -5) ∨ (¬ (yb.v < 0 ∧ xa.v = 0) ∧ (((200 < ab yb.v * xa.sc ∨ PW 10 200 ≤ PW (ab xa.v) (ab yb.v)) ∧ (-7) = -7) ∨ (ab yb.v * xa.sc ≤ 200 ∧ PW (ab xa.v) (ab yb.v) < PW 10 200 ∧ ((yb.v < 0 ∧ mres (-7) (szn (if ab yb.v % 2 = 1 then xa.v else 1) (PW 10 (ab yb.v * xa.sc + kk) / PW (ab xa.v) (ab yb.v))) kk mT mS mC mL mB) ∨ (0 ≤ yb.v ∧ mres (-7) (szn (if ab yb.v % 2 = 1 then xa.v else 1) (PW (ab xa.v) (ab yb.v) / PW 10 (ab yb.v * xa.sc - min (ab yb.v * xa.sc) (max kk xa.sc)))) (min (ab yb.v * xa.sc) (max kk xa.sc)) mT mS mC mL mB)))))))) ∧ thO mT mS mC mL mB mT mS mC mL mB 46 from by refine ⟨Or.inr ⟨hsl.1, hsl.2.1, Or.inr ⟨hnx, Or.inl ⟨?_, rfl⟩⟩⟩, thO_r⟩; first | exact Or.inl (by omega) | exact Or.inr (hn9 ▸ pow_mono ab_nn hj.1 hj.2 (DL_ge (M_dl hJ) (by decide) (by omega))))
              · refine lv_iload hx hb dMo_power_120 (lv_at hl 1 rfl) ?_
                refine lv_sipush (v := iI 200) hx hb dMo_power_122 (by decide) ?_
                refine iv_icmp_le (tgt := 131) hx hb dMo_power_125 (by decide) ⟨by omega, by omega⟩ ⟨by decide, by decide⟩ (fun hc125 => ?_) (fun hc125 => ?_)
                · refine lv_iload hx hb dMo_power_131 (lv_at hl 2 rfl) ?_
                  refine lv_iconst (v := iI 2) hx hb dMo_power_133 rfl ?_
                  refine iv_irem hx hb dMo_power_134 (by omega) ⟨by omega, by omega⟩ (by omega) ⟨by decide, by decide⟩ ?_
                  refine iv_if_ne (tgt := 142) hx hb dMo_power_135 (by decide) ⟨by omega, by omega⟩ (fun hc135 => ?_) (fun hc135 => ?_)
                  · refine lv_aload_n hx hb dMo_power_142 rfl (lv_at hl 4 rfl) ?_
                    refine va_get (D := (dC, dI)) (ci := 7) (v := .ref (mo + 3)) (C := "MacroReckonerModel") (T := TMo) (N := 23) hx hb hts inMo hown hK hP 0 rfl rfl 4 (by decide) (hts _ wt4_62) (fun _ h9 => h9) rfl dMo_power_143 ?_
                    refine lv_iload_n hx hb dMo_power_146 rfl (lv_at hl 5 rfl) ?_
                    refine iv_iald hx hb hK hP 3 0 rfl rfl (by decide) dMo_power_147 (by omega) (by omega) ?_
                    refine lv_istore (lv' := [(6, .int (iI (mS x))), (5, .int (iI (n9 * (mC x)))), (4, .int (iI n9)), (3, .int (iI v9)), (0, .ref mo), (1, .int (iI x)), (2, .int (iI y))]) hx hb dMo_power_148 hl (by decide) rfl (fun ls hl => ?_)
                    obtain ⟨s6, e_s6⟩ : ∃ z : Int, z = mS x := ⟨_, rfl⟩
                    have hl : lv_has ls 8 [(6, .int (iI s6)), (5, .int (iI (n9 * (mC x)))), (4, .int (iI n9)), (3, .int (iI v9)), (0, .ref mo), (1, .int (iI x)), (2, .int (iI y))] := by rw [e_s6]; exact hl
                    have hs6 : (n9 % 2 = 0 ∧ s6 = 1) ∨ (n9 % 2 ≠ 0 ∧ s6 = mS x) := by omega
                    have hjn : j = ab yb.v := by omega
                    rw [hjn] at hJ
                    have hlt9 := DL_lt (M_dl hJ) (show Z9 0 ≤ 200 by omega)
                    refine lv_iload_n hx hb dMo_power_150 rfl (lv_at hl 3 rfl) ?_
                    refine iv_if_lt (tgt := 205) hx hb dMo_power_151 (by decide) ⟨by omega, by omega⟩ (fun hc151 => ?_) (fun hc151 => absurd hc151 (by omega))
                    refine lv_aload_n hx hb dMo_power_205 rfl (lv_at hl 4 rfl) ?_
                    refine lv_iconst (v := iI 1) hx hb dMo_power_206 rfl ?_
                    refine lv_iconst (v := iI 0) hx hb dMo_power_207 rfl ?_
                    refine cv_v (va_runV (C := "MacroReckonerModel") (As := [.int (iI 1), .int (iI 0)]) (rest := []) ⟨hx, hb, hml, hown, hts⟩ (cMo_copy l dC dI dA mo ft lf hg kk tx pn tk fm tO tl mI mT mS mC mL mB mF mU mX mP mK D9 Z9 1 0 (PW (ab xa.v) (ab yb.v)) (by omega) (by exact hJ) H.size) (cwV 2 hts (gdV wt5_57 wt5_59 ws5_11 wt1_8 wt5_60) rfl rfl rfl ⟨rfl, by decide, by decide, by decide +kernel⟩ ⟨by decide, by decide⟩) (preV (q := ("MacroReckonerModel", TMo, 23)) hK hP hD hS hA XN_ok trivial [0, 1, 2, 3, 4, 5, 6, 7, 8, 9, 10, 11, 12, 13] rfl rfl 0 rfl rfl) rfl rfl hl.1 rfl (lv_room (Nat.le_of_ble_eq_true rfl)) dMo_power_208 ⟨Nat.zero_le _, Nat.zero_le _⟩) hP hD hS hA [0, 1, 2, 3, 4, 5, 6, 7, 8, 9, 10, 11, 12, 13] [] rfl (fun v_ => wMo dA mo ft lf hg kk tx pn tk fm tO tl mI mT mS mC mL mB mF mU mX mP mK v_.1 v_.2 []) (fun _ => rfl) ([] : va_W) rfl (fun _ => rfl) [mo, mo + 1, mo + 2, mo + 3, mo + 4, mo + 5, mo + 6, mo + 7, mo + 8, mo + 9, mo + 10, mo + 11, mo + 12, mo + 13] rfl (fun _ => rfl) (fun _ => rfl) (fun u_ H locs hq208 hP hD hS => ?_)
                    obtain ⟨D1_208, Z1_208⟩ := u_
                    have hP : va_P (dC, dI) vwCl (wMo dA mo ft lf hg kk tx pn tk fm tO tl mI mT mS mC mL mB mF mU mX mP mK D1_208 Z1_208 []) H := hP
                    have hD : va_D A (wMo dA mo ft lf hg kk tx pn tk fm tO tl mI mT mS mC mL mB mF mU mX mP mK D1_208 Z1_208 []) := hD
                    have hq208 : MR D1_208 Z1_208 1 (PW (ab xa.v) (ab yb.v)) ∧ others D9 Z9 D1_208 Z1_208 1 := hq208
                    refine lv_aload_n hx hb dMo_power_211 rfl (lv_at hl 4 rfl) ?_
                    refine lv_iconst (v := iI 0) hx hb dMo_power_212 rfl ?_
                    refine lv_iload hx hb dMo_power_213 (lv_at hl 1 rfl) ?_
                    refine lv_aload_n hx hb dMo_power_215 rfl (lv_at hl 4 rfl) ?_
                    refine va_get (D := (dC, dI)) (ci := 7) (v := .int (iI kk)) (C := "MacroReckonerModel") (T := TMo) (N := 23) hx hb hts inMo hown hK hP 0 rfl rfl 9 (by decide) (hts _ wt4_67) (fun _ h9 => h9) rfl dMo_power_216 ?_
                    refine iv_iadd hx hb dMo_power_219 ?_
                    refine cv_v (va_runV (C := "MacroReckonerModel") (As := [.int (iI 0), .int (iI ((n9 * (mC x)) + kk))]) (rest := []) ⟨hx, hb, hml, hown, hts⟩ (cMo_unit l dC dI dA mo ft lf hg kk tx pn tk fm tO tl mI mT mS mC mL mB mF mU mX mP mK D1_208 Z1_208 0 ((n9 * (mC x)) + kk) (by omega) (by omega) H.size) (cwV 2 hts (gdV wt5_53 wt5_55 ws5_10 wt1_8 wt5_56) rfl rfl rfl ⟨rfl, by decide, by decide, by decide +kernel⟩ ⟨by decide, by decide⟩) (preV (q := ("MacroReckonerModel", TMo, 23)) hK hP hD hS hA XN_ok trivial [0, 1, 2, 3, 4, 5, 6, 7, 8, 9, 10, 11, 12, 13] rfl rfl 0 rfl rfl) rfl rfl hl.1 rfl (lv_room (Nat.le_of_ble_eq_true rfl)) dMo_power_220 ⟨Nat.zero_le _, Nat.zero_le _⟩) hP hD hS hA [0, 1, 2, 3, 4, 5, 6, 7, 8, 9, 10, 11, 12, 13] [] rfl (fun v_ => wMo dA mo ft lf hg kk tx pn tk fm tO tl mI mT mS mC mL mB mF mU mX mP mK v_.1 v_.2 []) (fun _ => rfl) ([] : va_W) rfl (fun _ => rfl) [mo, mo + 1, mo + 2, mo + 3, mo + 4, mo + 5, mo + 6, mo + 7, mo + 8, mo + 9, mo + 10, mo + 11, mo + 12, mo + 13] rfl (fun _ => rfl) (fun _ => rfl) (fun u_ H locs hq220 hP hD hS => ?_)
                    obtain ⟨D1_220, Z1_220⟩ := u_
                    have hP : va_P (dC, dI) vwCl (wMo dA mo ft lf hg kk tx pn tk fm tO tl mI mT mS mC mL mB mF mU mX mP mK D1_220 Z1_220 []) H := hP
                    have hD : va_D A (wMo dA mo ft lf hg kk tx pn tk fm tO tl mI mT mS mC mL mB mF mU mX mP mK D1_220 Z1_220 []) := hD
                    have hq220 : MR D1_220 Z1_220 0 (PW 10 ((n9 * (mC x)) + kk)) ∧ others D1_208 Z1_208 D1_220 Z1_220 0 := hq220
                    rw [hex3] at hq220
                    have h1c := MR_o hq220.2 (by decide) hq208.1
                    have hz1 := M_sz h1c hlt9 (by decide)
                    refine lv_aload_n hx hb dMo_power_223 rfl (lv_at hl 4 rfl) ?_
                    refine cv_v (va_runV (C := "MacroReckonerModel") (As := []) (rest := []) ⟨hx, hb, hml, hown, hts⟩ (cMo_divide l dC dI dA mo ft lf hg kk tx pn tk fm tO tl mI mT mS mC mL mB mF mU mX mP mK D1_220 Z1_220 (PW 10 (ab yb.v * xa.sc + kk)) (PW (ab xa.v) (ab yb.v)) (by exact hq220.1) (by exact h1c) (by exact PW_pos (by unfold ab; omega) _) (by omega) H.size) (cwV 0 hts (gdV wt5_37 wt5_39 ws5_6 wt1_8 wt5_40) rfl rfl rfl ⟨rfl, by decide, by decide, by decide +kernel⟩ ⟨by decide, by decide⟩) (preV (q := ("MacroReckonerModel", TMo, 23)) hK hP hD hS hA XN_ok trivial [0, 1, 2, 3, 4, 5, 6, 7, 8, 9, 10, 11, 12, 13] rfl rfl 0 rfl rfl) rfl rfl hl.1 rfl (lv_room (Nat.le_of_ble_eq_true rfl)) dMo_power_224 ⟨Nat.zero_le _, Nat.zero_le _⟩) hP hD hS hA [0, 1, 2, 3, 4, 5, 6, 7, 8, 9, 10, 11, 12, 13] [] rfl (fun v_ => wMo dA mo ft lf hg kk tx pn tk fm tO tl mI mT mS mC mL mB mF mU mX mP mK v_.1 v_.2 []) (fun _ => rfl) ([] : va_W) rfl (fun _ => rfl) [mo, mo + 1, mo + 2, mo + 3, mo + 4, mo + 5, mo + 6, mo + 7, mo + 8, mo + 9, mo + 10, mo + 11, mo + 12, mo + 13] rfl (fun _ => rfl) (fun _ => rfl) (fun u_ H locs hq224 hP hD hS => ?_)
                    obtain ⟨D1_224, Z1_224⟩ := u_
                    have hP : va_P (dC, dI) vwCl (wMo dA mo ft lf hg kk tx pn tk fm tO tl mI mT mS mC mL mB mF mU mX mP mK D1_224 Z1_224 []) H := hP
                    have hD : va_D A (wMo dA mo ft lf hg kk tx pn tk fm tO tl mI mT mS mC mL mB mF mU mX mP mK D1_224 Z1_224 []) := hD
                    have hq224 : MR D1_224 Z1_224 2 ((PW 10 (ab yb.v * xa.sc + kk)) / (PW (ab xa.v) (ab yb.v))) ∧ MR D1_224 Z1_224 3 ((PW 10 (ab yb.v * xa.sc + kk)) % (PW (ab xa.v) (ab yb.v))) ∧ (∀ p, p < 680 ∨ 1360 ≤ p → D1_224 p = D1_220 p) ∧ ∀ t, t ≠ 2 → t ≠ 3 → Z1_224 t = Z1_220 t := hq224
                    refine lv_aload_n hx hb dMo_power_227 rfl (lv_at hl 4 rfl) ?_
                    refine lv_iconst (v := iI 2) hx hb dMo_power_228 rfl ?_
                    refine lv_iload hx hb dMo_power_229 (lv_at hl 0 rfl) ?_
                    refine lv_aload_n hx hb dMo_power_231 rfl (lv_at hl 4 rfl) ?_
                    refine va_get (D := (dC, dI)) (ci := 7) (v := .int (iI kk)) (C := "MacroReckonerModel") (T := TMo) (N := 23) hx hb hts inMo hown hK hP 0 rfl rfl 9 (by decide) (hts _ wt4_67) (fun _ h9 => h9) rfl dMo_power_232 ?_
                    refine cv_i (va_runV (C := "MacroReckonerModel") (As := [.int (iI 2), .int (iI s6), .int (iI kk)]) (rest := []) ⟨hx, hb, hml, hown, hts⟩ (cMo_make l dC dI dA mo ft lf hg kk tx pn tk fm tO tl mI mT mS mC mL mB mF mU mX mP mK D1_224 Z1_224 2 s6 kk (PW 10 (ab yb.v * xa.sc + kk) / PW (ab xa.v) (ab yb.v)) (szn (if ab yb.v % 2 = 1 then xa.v else 1) (PW 10 (ab yb.v * xa.sc + kk) / PW (ab xa.v) (ab yb.v))) (by omega) (by exact hq224.1) (by exact (sp_e hSx ab_nn (hn9 ▸ hs6) (fun h1 h2 => by omega)).2) (by omega) (by exact (sp_e hSx ab_nn (hn9 ▸ hs6) (fun h1 h2 => by omega)).1) H.size) (cwV 3 hts (gdV wt4_195 wt4_197 ws4_3 wt1_8 wt4_198) rfl rfl rfl ⟨rfl, by decide, by decide, by decide +kernel⟩ ⟨by decide, by decide⟩) (preV (q := ("MacroReckonerModel", TMo, 23)) hK hP hD hS hA XN_ok trivial [0, 1, 2, 3, 4, 5, 6, 7, 8, 9, 10, 11, 12, 13] rfl rfl 0 rfl rfl) rfl rfl hl.1 rfl (lv_room (Nat.le_of_ble_eq_true rfl)) dMo_power_235 ⟨Nat.zero_le _, Nat.zero_le _⟩) hP hD hS hA [0, 1, 2, 3, 4, 5, 6, 7, 8, 9, 10, 11, 12, 13] [] rfl (fun v_ => wMo dA mo ft lf hg kk tx pn tk fm tO tl mI v_.1 v_.2.1 v_.2.2.1 v_.2.2.2.1 v_.2.2.2.2 mF mU mX mP mK D1_224 Z1_224 []) (fun _ => rfl) ([] : va_W) rfl (fun _ => rfl) [mo, mo + 1, mo + 2, mo + 3, mo + 4, mo + 5, mo + 6, mo + 7, mo + 8, mo + 9, mo + 10, mo + 11, mo + 12, mo + 13] rfl (fun _ => rfl) (fun _ => rfl) (fun r235 u_ H locs hq235 hP hD hS => ?_)
                    obtain ⟨T1_235, S1_235, C1_235, L1_235, B1_235⟩ := u_
                    have hP : va_P (dC, dI) vwCl (wMo dA mo ft lf hg kk tx pn tk fm tO tl mI T1_235 S1_235 C1_235 L1_235 B1_235 mF mU mX mP mK D1_224 Z1_224 []) H := hP
                    have hD : va_D A (wMo dA mo ft lf hg kk tx pn tk fm tO tl mI T1_235 S1_235 C1_235 L1_235 B1_235 mF mU mX mP mK D1_224 Z1_224 []) := hD
                    have hq235 : mres r235 (szn (if ab yb.v % 2 = 1 then xa.v else 1) (PW 10 (ab yb.v * xa.sc + kk) / PW (ab xa.v) (ab yb.v))) kk T1_235 S1_235 C1_235 L1_235 B1_235 ∧ thO mT mS mC mL mB T1_235 S1_235 C1_235 L1_235 B1_235 46 := hq235
                    exact rt_i hx hb hr hlocks hK hS dMo_power_238 (T1_235, S1_235, C1_235, L1_235, B1_235, D1_224, Z1_224) hP hD (show (((0 < yb.sc ∨ 100 ≤ ab yb.v) ∧ r235 = -4) ∨ (yb.sc = 0 ∧ ab yb.v < 100 ∧ ((yb.v < 0 ∧ xa.v = 0 ∧ r235 = -5) ∨ (¬ (yb.v < 0 ∧ xa.v = 0) ∧ (((200 < ab yb.v * xa.sc ∨ PW 10 200 ≤ PW (ab xa.v) (ab yb.v)) ∧ r235 = -7) ∨ (ab yb.v * xa.sc ≤ 200 ∧ PW (ab xa.v) (ab yb.v) < PW 10 200 ∧ ((yb.v < 0 ∧ mres r235 (szn (if ab yb.v % 2 = 1 then xa.v else 1) (PW 10 (ab yb.v * xa.sc + kk) / PW (ab xa.v) (ab yb.v))) kk T1_235 S1_235 C1_235 L1_235 B1_235) ∨ (0 ≤ yb.v ∧ mres r235 (szn (if ab yb.v % 2 = 1 then xa.v else 1) (PW (ab xa.v) (ab yb.v) / PW 10 (ab yb.v * xa.sc - min (ab yb.v * xa.sc) (max kk xa.sc)))) (min (ab yb.v * xa.sc) (max kk xa.sc)) T1_235 S1_235 C1_235 L1_235 B1_235)))))))) ∧ thO mT mS mC mL mB T1_235 S1_235 C1_235 L1_235 B1_235 46 from by exact ⟨Or.inr ⟨hsl.1, hsl.2.1, Or.inr ⟨hnx, Or.inr ⟨by omega, hlt9, Or.inl ⟨by omega, hq235.1⟩⟩⟩⟩, hq235.2⟩)
                  · refine lv_iconst (v := iI 1) hx hb dMo_power_138 rfl ?_
                    refine lv_goto (tgt := 148) hx hb dMo_power_139 (by decide) ?_
                    refine lv_istore (lv' := [(6, .int (iI 1)), (5, .int (iI (n9 * (mC x)))), (4, .int (iI n9)), (3, .int (iI v9)), (0, .ref mo), (1, .int (iI x)), (2, .int (iI y))]) hx hb dMo_power_148 hl (by decide) rfl (fun ls hl => ?_)
                    obtain ⟨s6, e_s6⟩ : ∃ z : Int, z = 1 := ⟨_, rfl⟩
                    have hl : lv_has ls 8 [(6, .int (iI s6)), (5, .int (iI (n9 * (mC x)))), (4, .int (iI n9)), (3, .int (iI v9)), (0, .ref mo), (1, .int (iI x)), (2, .int (iI y))] := by rw [e_s6]; exact hl
                    have hs6 : (n9 % 2 = 0 ∧ s6 = 1) ∨ (n9 % 2 ≠ 0 ∧ s6 = mS x) := by omega
                    have hjn : j = ab yb.v := by omega
                    rw [hjn] at hJ
                    have hlt9 := DL_lt (M_dl hJ) (show Z9 0 ≤ 200 by omega)
                    refine lv_iload_n hx hb dMo_power_150 rfl (lv_at hl 3 rfl) ?_
                    refine iv_if_lt (tgt := 205) hx hb dMo_power_151 (by decide) ⟨by omega, by omega⟩ (fun hc151 => ?_) (fun hc151 => absurd hc151 (by omega))
                    refine lv_aload_n hx hb dMo_power_205 rfl (lv_at hl 4 rfl) ?_
                    refine lv_iconst (v := iI 1) hx hb dMo_power_206 rfl ?_
                    refine lv_iconst (v := iI 0) hx hb dMo_power_207 rfl ?_
                    refine cv_v (va_runV (C := "MacroReckonerModel") (As := [.int (iI 1), .int (iI 0)]) (rest := []) ⟨hx, hb, hml, hown, hts⟩ (cMo_copy l dC dI dA mo ft lf hg kk tx pn tk fm tO tl mI mT mS mC mL mB mF mU mX mP mK D9 Z9 1 0 (PW (ab xa.v) (ab yb.v)) (by omega) (by exact hJ) H.size) (cwV 2 hts (gdV wt5_57 wt5_59 ws5_11 wt1_8 wt5_60) rfl rfl rfl ⟨rfl, by decide, by decide, by decide +kernel⟩ ⟨by decide, by decide⟩) (preV (q := ("MacroReckonerModel", TMo, 23)) hK hP hD hS hA XN_ok trivial [0, 1, 2, 3, 4, 5, 6, 7, 8, 9, 10, 11, 12, 13] rfl rfl 0 rfl rfl) rfl rfl hl.1 rfl (lv_room (Nat.le_of_ble_eq_true rfl)) dMo_power_208 ⟨Nat.zero_le _, Nat.zero_le _⟩) hP hD hS hA [0, 1, 2, 3, 4, 5, 6, 7, 8, 9, 10, 11, 12, 13] [] rfl (fun v_ => wMo dA mo ft lf hg kk tx pn tk fm tO tl mI mT mS mC mL mB mF mU mX mP mK v_.1 v_.2 []) (fun _ => rfl) ([] : va_W) rfl (fun _ => rfl) [mo, mo + 1, mo + 2, mo + 3, mo + 4, mo + 5, mo + 6, mo + 7, mo + 8, mo + 9, mo + 10, mo + 11, mo + 12, mo + 13] rfl (fun _ => rfl) (fun _ => rfl) (fun u_ H locs hq208 hP hD hS => ?_)
                    obtain ⟨D1_208, Z1_208⟩ := u_
                    have hP : va_P (dC, dI) vwCl (wMo dA mo ft lf hg kk tx pn tk fm tO tl mI mT mS mC mL mB mF mU mX mP mK D1_208 Z1_208 []) H := hP
                    have hD : va_D A (wMo dA mo ft lf hg kk tx pn tk fm tO tl mI mT mS mC mL mB mF mU mX mP mK D1_208 Z1_208 []) := hD
                    have hq208 : MR D1_208 Z1_208 1 (PW (ab xa.v) (ab yb.v)) ∧ others D9 Z9 D1_208 Z1_208 1 := hq208
                    refine lv_aload_n hx hb dMo_power_211 rfl (lv_at hl 4 rfl) ?_
                    refine lv_iconst (v := iI 0) hx hb dMo_power_212 rfl ?_
                    refine lv_iload hx hb dMo_power_213 (lv_at hl 1 rfl) ?_
                    refine lv_aload_n hx hb dMo_power_215 rfl (lv_at hl 4 rfl) ?_
                    refine va_get (D := (dC, dI)) (ci := 7) (v := .int (iI kk)) (C := "MacroReckonerModel") (T := TMo) (N := 23) hx hb hts inMo hown hK hP 0 rfl rfl 9 (by decide) (hts _ wt4_67) (fun _ h9 => h9) rfl dMo_power_216 ?_
                    refine iv_iadd hx hb dMo_power_219 ?_
                    refine cv_v (va_runV (C := "MacroReckonerModel") (As := [.int (iI 0), .int (iI ((n9 * (mC x)) + kk))]) (rest := []) ⟨hx, hb, hml, hown, hts⟩ (cMo_unit l dC dI dA mo ft lf hg kk tx pn tk fm tO tl mI mT mS mC mL mB mF mU mX mP mK D1_208 Z1_208 0 ((n9 * (mC x)) + kk) (by omega) (by omega) H.size) (cwV 2 hts (gdV wt5_53 wt5_55 ws5_10 wt1_8 wt5_56) rfl rfl rfl ⟨rfl, by decide, by decide, by decide +kernel⟩ ⟨by decide, by decide⟩) (preV (q := ("MacroReckonerModel", TMo, 23)) hK hP hD hS hA XN_ok trivial [0, 1, 2, 3, 4, 5, 6, 7, 8, 9, 10, 11, 12, 13] rfl rfl 0 rfl rfl) rfl rfl hl.1 rfl (lv_room (Nat.le_of_ble_eq_true rfl)) dMo_power_220 ⟨Nat.zero_le _, Nat.zero_le _⟩) hP hD hS hA [0, 1, 2, 3, 4, 5, 6, 7, 8, 9, 10, 11, 12, 13] [] rfl (fun v_ => wMo dA mo ft lf hg kk tx pn tk fm tO tl mI mT mS mC mL mB mF mU mX mP mK v_.1 v_.2 []) (fun _ => rfl) ([] : va_W) rfl (fun _ => rfl) [mo, mo + 1, mo + 2, mo + 3, mo + 4, mo + 5, mo + 6, mo + 7, mo + 8, mo + 9, mo + 10, mo + 11, mo + 12, mo + 13] rfl (fun _ => rfl) (fun _ => rfl) (fun u_ H locs hq220 hP hD hS => ?_)
                    obtain ⟨D1_220, Z1_220⟩ := u_
                    have hP : va_P (dC, dI) vwCl (wMo dA mo ft lf hg kk tx pn tk fm tO tl mI mT mS mC mL mB mF mU mX mP mK D1_220 Z1_220 []) H := hP
                    have hD : va_D A (wMo dA mo ft lf hg kk tx pn tk fm tO tl mI mT mS mC mL mB mF mU mX mP mK D1_220 Z1_220 []) := hD
                    have hq220 : MR D1_220 Z1_220 0 (PW 10 ((n9 * (mC x)) + kk)) ∧ others D1_208 Z1_208 D1_220 Z1_220 0 := hq220
                    rw [hex3] at hq220
                    have h1c := MR_o hq220.2 (by decide) hq208.1
                    have hz1 := M_sz h1c hlt9 (by decide)
                    refine lv_aload_n hx hb dMo_power_223 rfl (lv_at hl 4 rfl) ?_
                    refine cv_v (va_runV (C := "MacroReckonerModel") (As := []) (rest := []) ⟨hx, hb, hml, hown, hts⟩ (cMo_divide l dC dI dA mo ft lf hg kk tx pn tk fm tO tl mI mT mS mC mL mB mF mU mX mP mK D1_220 Z1_220 (PW 10 (ab yb.v * xa.sc + kk)) (PW (ab xa.v) (ab yb.v)) (by exact hq220.1) (by exact h1c) (by exact PW_pos (by unfold ab; omega) _) (by omega) H.size) (cwV 0 hts (gdV wt5_37 wt5_39 ws5_6 wt1_8 wt5_40) rfl rfl rfl ⟨rfl, by decide, by decide, by decide +kernel⟩ ⟨by decide, by decide⟩) (preV (q := ("MacroReckonerModel", TMo, 23)) hK hP hD hS hA XN_ok trivial [0, 1, 2, 3, 4, 5, 6, 7, 8, 9, 10, 11, 12, 13] rfl rfl 0 rfl rfl) rfl rfl hl.1 rfl (lv_room (Nat.le_of_ble_eq_true rfl)) dMo_power_224 ⟨Nat.zero_le _, Nat.zero_le _⟩) hP hD hS hA [0, 1, 2, 3, 4, 5, 6, 7, 8, 9, 10, 11, 12, 13] [] rfl (fun v_ => wMo dA mo ft lf hg kk tx pn tk fm tO tl mI mT mS mC mL mB mF mU mX mP mK v_.1 v_.2 []) (fun _ => rfl) ([] : va_W) rfl (fun _ => rfl) [mo, mo + 1, mo + 2, mo + 3, mo + 4, mo + 5, mo + 6, mo + 7, mo + 8, mo + 9, mo + 10, mo + 11, mo + 12, mo + 13] rfl (fun _ => rfl) (fun _ => rfl) (fun u_ H locs hq224 hP hD hS => ?_)
                    obtain ⟨D1_224, Z1_224⟩ := u_
                    have hP : va_P (dC, dI) vwCl (wMo dA mo ft lf hg kk tx pn tk fm tO tl mI mT mS mC mL mB mF mU mX mP mK D1_224 Z1_224 []) H := hP
                    have hD : va_D A (wMo dA mo ft lf hg kk tx pn tk fm tO tl mI mT mS mC mL mB mF mU mX mP mK D1_224 Z1_224 []) := hD
                    have hq224 : MR D1_224 Z1_224 2 ((PW 10 (ab yb.v * xa.sc + kk)) / (PW (ab xa.v) (ab yb.v))) ∧ MR D1_224 Z1_224 3 ((PW 10 (ab yb.v * xa.sc + kk)) % (PW (ab xa.v) (ab yb.v))) ∧ (∀ p, p < 680 ∨ 1360 ≤ p → D1_224 p = D1_220 p) ∧ ∀ t, t ≠ 2 → t ≠ 3 → Z1_224 t = Z1_220 t := hq224
                    refine lv_aload_n hx hb dMo_power_227 rfl (lv_at hl 4 rfl) ?_
                    refine lv_iconst (v := iI 2) hx hb dMo_power_228 rfl ?_
                    refine lv_iload hx hb dMo_power_229 (lv_at hl 0 rfl) ?_
                    refine lv_aload_n hx hb dMo_power_231 rfl (lv_at hl 4 rfl) ?_
                    refine va_get (D := (dC, dI)) (ci := 7) (v := .int (iI kk)) (C := "MacroReckonerModel") (T := TMo) (N := 23) hx hb hts inMo hown hK hP 0 rfl rfl 9 (by decide) (hts _ wt4_67) (fun _ h9 => h9) rfl dMo_power_232 ?_
                    refine cv_i (va_runV (C := "MacroReckonerModel") (As := [.int (iI 2), .int (iI s6), .int (iI kk)]) (rest := []) ⟨hx, hb, hml, hown, hts⟩ (cMo_make l dC dI dA mo ft lf hg kk tx pn tk fm tO tl mI mT mS mC mL mB mF mU mX mP mK D1_224 Z1_224 2 s6 kk (PW 10 (ab yb.v * xa.sc + kk) / PW (ab xa.v) (ab yb.v)) (szn (if ab yb.v % 2 = 1 then xa.v else 1) (PW 10 (ab yb.v * xa.sc + kk) / PW (ab xa.v) (ab yb.v))) (by omega) (by exact hq224.1) (by exact (sp_e hSx ab_nn (hn9 ▸ hs6) (fun h1 h2 => by omega)).2) (by omega) (by exact (sp_e hSx ab_nn (hn9 ▸ hs6) (fun h1 h2 => by omega)).1) H.size) (cwV 3 hts (gdV wt4_195 wt4_197 ws4_3 wt1_8 wt4_198) rfl rfl rfl ⟨rfl, by decide, by decide, by decide +kernel⟩ ⟨by decide, by decide⟩) (preV (q := ("MacroReckonerModel", TMo, 23)) hK hP hD hS hA XN_ok trivial [0, 1, 2, 3, 4, 5, 6, 7, 8, 9, 10, 11, 12, 13] rfl rfl 0 rfl rfl) rfl rfl hl.1 rfl (lv_room (Nat.le_of_ble_eq_true rfl)) dMo_power_235 ⟨Nat.zero_le _, Nat.zero_le _⟩) hP hD hS hA [0, 1, 2, 3, 4, 5, 6, 7, 8, 9, 10, 11, 12, 13] [] rfl (fun v_ => wMo dA mo ft lf hg kk tx pn tk fm tO tl mI v_.1 v_.2.1 v_.2.2.1 v_.2.2.2.1 v_.2.2.2.2 mF mU mX mP mK D1_224 Z1_224 []) (fun _ => rfl) ([] : va_W) rfl (fun _ => rfl) [mo, mo + 1, mo + 2, mo + 3, mo + 4, mo + 5, mo + 6, mo + 7, mo + 8, mo + 9, mo + 10, mo + 11, mo + 12, mo + 13] rfl (fun _ => rfl) (fun _ => rfl) (fun r235 u_ H locs hq235 hP hD hS => ?_)
                    obtain ⟨T1_235, S1_235, C1_235, L1_235, B1_235⟩ := u_
                    have hP : va_P (dC, dI) vwCl (wMo dA mo ft lf hg kk tx pn tk fm tO tl mI T1_235 S1_235 C1_235 L1_235 B1_235 mF mU mX mP mK D1_224 Z1_224 []) H := hP
                    have hD : va_D A (wMo dA mo ft lf hg kk tx pn tk fm tO tl mI T1_235 S1_235 C1_235 L1_235 B1_235 mF mU mX mP mK D1_224 Z1_224 []) := hD
                    have hq235 : mres r235 (szn (if ab yb.v % 2 = 1 then xa.v else 1) (PW 10 (ab yb.v * xa.sc + kk) / PW (ab xa.v) (ab yb.v))) kk T1_235 S1_235 C1_235 L1_235 B1_235 ∧ thO mT mS mC mL mB T1_235 S1_235 C1_235 L1_235 B1_235 46 := hq235
                    exact rt_i hx hb hr hlocks hK hS dMo_power_238 (T1_235, S1_235, C1_235, L1_235, B1_235, D1_224, Z1_224) hP hD (show (((0 < yb.sc ∨ 100 ≤ ab yb.v) ∧ r235 = -4) ∨ (yb.sc = 0 ∧ ab yb.v < 100 ∧ ((yb.v < 0 ∧ xa.v = 0 ∧ r235 = -5) ∨ (¬ (yb.v < 0 ∧ xa.v = 0) ∧ (((200 < ab yb.v * xa.sc ∨ PW 10 200 ≤ PW (ab xa.v) (ab yb.v)) ∧ r235 = -7) ∨ (ab yb.v * xa.sc ≤ 200 ∧ PW (ab xa.v) (ab yb.v) < PW 10 200 ∧ ((yb.v < 0 ∧ mres r235 (szn (if ab yb.v % 2 = 1 then xa.v else 1) (PW 10 (ab yb.v * xa.sc + kk) / PW (ab xa.v) (ab yb.v))) kk T1_235 S1_235 C1_235 L1_235 B1_235) ∨ (0 ≤ yb.v ∧ mres r235 (szn (if ab yb.v % 2 = 1 then xa.v else 1) (PW (ab xa.v) (ab yb.v) / PW 10 (ab yb.v * xa.sc - min (ab yb.v * xa.sc) (max kk xa.sc)))) (min (ab yb.v * xa.sc) (max kk xa.sc)) T1_235 S1_235 C1_235 L1_235 B1_235)))))))) ∧ thO mT mS mC mL mB T1_235 S1_235 C1_235 L1_235 B1_235 46 from by exact ⟨Or.inr ⟨hsl.1, hsl.2.1, Or.inr ⟨hnx, Or.inr ⟨by omega, hlt9, Or.inl ⟨by omega, hq235.1⟩⟩⟩⟩, hq235.2⟩)
                · refine lv_bipush (v := iI (-7)) hx hb dMo_power_128 (by decide) ?_
                  exact rt_i hx hb hr hlocks hK hS dMo_power_130 (mT, mS, mC, mL, mB, D9, Z9) hP hD (show (((0 < yb.sc ∨ 100 ≤ ab yb.v) ∧ (-7) = -4) ∨ (yb.sc = 0 ∧ ab yb.v < 100 ∧ ((yb.v < 0 ∧ xa.v = 0 ∧ (-7) = -5) ∨ (¬ (yb.v < 0 ∧ xa.v = 0) ∧ (((200 < ab yb.v * xa.sc ∨ PW 10 200 ≤ PW (ab xa.v) (ab yb.v)) ∧ (-7) = -7) ∨ (ab yb.v * xa.sc ≤ 200 ∧ PW (ab xa.v) (ab yb.v) < PW 10 200 ∧ ((yb.v < 0 ∧ mres (-7) (szn (if ab yb.v % 2 = 1 then xa.v else 1) (PW 10 (ab yb.v * xa.sc + kk) / PW (ab xa.v) (ab yb.v))) kk mT mS mC mL mB) ∨ (0 ≤ yb.v ∧ mres (-7) (szn (if ab yb.v % 2 = 1 then xa.v else 1) (PW (ab xa.v) (ab yb.v) / PW 10 (ab yb.v * xa.sc - min (ab yb.v * xa.sc) (max kk xa.sc)))) (min (ab yb.v * xa.sc) (max kk xa.sc)) mT mS mC mL mB)))))))) ∧ thO mT mS mC mL mB mT mS mC mL mB 46 from by refine ⟨Or.inr ⟨hsl.1, hsl.2.1, Or.inr ⟨hnx, Or.inl ⟨?_, rfl⟩⟩⟩, thO_r⟩; first | exact Or.inl (by omega) | exact Or.inr (hn9 ▸ pow_mono ab_nn hj.1 hj.2 (DL_ge (M_dl hJ) (by decide) (by omega))))
            · refine lv_aload_n hx hb dMo_power_70 rfl (lv_at hl 4 rfl) ?_
              refine va_get (D := (dC, dI)) (ci := 7) (v := .ref (mo + 13)) (C := "MacroReckonerModel") (T := TMo) (N := 23) hx hb hts inMo hown hK hP 0 rfl rfl 22 (by decide) (hts _ wt4_80) (fun _ h9 => h9) rfl dMo_power_71 ?_
              refine lv_iconst (v := iI 0) hx hb dMo_power_74 rfl ?_
              refine iv_iald hx hb hK hP 13 0 rfl rfl (by decide) dMo_power_75 (by omega) (by omega) ?_
              refine lv_sipush (v := iI 200) hx hb dMo_power_76 (by decide) ?_
              refine iv_icmp_gt (tgt := 108) hx hb dMo_power_79 (by decide) ⟨by omega, by omega⟩ ⟨by decide, by decide⟩ (fun hc79 => ?_) (fun hc79 => ?_)
              · refine lv_aload_n hx hb dMo_power_108 rfl (lv_at hl 4 rfl) ?_
                refine va_get (D := (dC, dI)) (ci := 7) (v := .ref (mo + 13)) (C := "MacroReckonerModel") (T := TMo) (N := 23) hx hb hts inMo hown hK hP 0 rfl rfl 22 (by decide) (hts _ wt4_80) (fun _ h9 => h9) rfl dMo_power_109 ?_
                refine lv_iconst (v := iI 0) hx hb dMo_power_112 rfl ?_
                refine iv_iald hx hb hK hP 13 0 rfl rfl (by decide) dMo_power_113 (by omega) (by omega) ?_
                refine lv_sipush (v := iI 200) hx hb dMo_power_114 (by decide) ?_
                refine iv_icmp_gt (tgt := 128) hx hb dMo_power_117 (by decide) ⟨by omega, by omega⟩ ⟨by decide, by decide⟩ (fun hc117 => ?_) (fun hc117 => absurd hc117 (by omega))
                refine lv_bipush (v := iI (-7)) hx hb dMo_power_128 (by decide) ?_
                exact rt_i hx hb hr hlocks hK hS dMo_power_130 (mT, mS, mC, mL, mB, D9, Z9) hP hD (show (((0 < yb.sc ∨ 100 ≤ ab yb.v) ∧ (-7) = -4) ∨ (yb.sc = 0 ∧ ab yb.v < 100 ∧ ((yb.v < 0 ∧ xa.v = 0 ∧ (-7) = -5) ∨ (¬ (yb.v < 0 ∧ xa.v = 0) ∧ (((200 < ab yb.v * xa.sc ∨ PW 10 200 ≤ PW (ab xa.v) (ab yb.v)) ∧ (-7) = -7) ∨ (ab yb.v * xa.sc ≤ 200 ∧ PW (ab xa.v) (ab yb.v) < PW 10 200 ∧ ((yb.v < 0 ∧ mres (-7) (szn (if ab yb.v % 2 = 1 then xa.v else 1) (PW 10 (ab yb.v * xa.sc + kk) / PW (ab xa.v) (ab yb.v))) kk mT mS mC mL mB) ∨ (0 ≤ yb.v ∧ mres (-7) (szn (if ab yb.v % 2 = 1 then xa.v else 1) (PW (ab xa.v) (ab yb.v) / PW 10 (ab yb.v * xa.sc - min (ab yb.v * xa.sc) (max kk xa.sc)))) (min (ab yb.v * xa.sc) (max kk xa.sc)) mT mS mC mL mB)))))))) ∧ thO mT mS mC mL mB mT mS mC mL mB 46 from by refine ⟨Or.inr ⟨hsl.1, hsl.2.1, Or.inr ⟨hnx, Or.inl ⟨?_, rfl⟩⟩⟩, thO_r⟩; first | exact Or.inl (by omega) | exact Or.inr (hn9 ▸ pow_mono ab_nn hj.1 hj.2 (DL_ge (M_dl hJ) (by decide) (by omega))))
              · refine lv_aload_n hx hb dMo_power_82 rfl (lv_at hl 4 rfl) ?_
                refine lv_iconst (v := iI 1) hx hb dMo_power_83 rfl ?_
                refine lv_iload_n hx hb dMo_power_84 rfl (lv_at hl 5 rfl) ?_
                refine lv_iconst (v := iI 0) hx hb dMo_power_85 rfl ?_
                refine cv_v (va_runV (C := "MacroReckonerModel") (As := [.int (iI 1), .int (iI x), .int (iI 0)]) (rest := []) ⟨hx, hb, hml, hown, hts⟩ (cMo_load l dC dI dA mo ft lf hg kk tx pn tk fm tO tl mI mT mS mC mL mB mF mU mX mP mK D9 Z9 1 x 0 (ab xa.v) (by omega) (by omega) (by exact hTx) H.size) (cwV 3 hts (gdV wt4_226 wt4_228 ws4_10 wt1_8 wt4_229) rfl rfl rfl ⟨rfl, by decide, by decide, by decide +kernel⟩ ⟨by decide, by decide⟩) (preV (q := ("MacroReckonerModel", TMo, 23)) hK hP hD hS hA XN_ok trivial [0, 1, 2, 3, 4, 5, 6, 7, 8, 9, 10, 11, 12, 13] rfl rfl 0 rfl rfl) rfl rfl hl.1 rfl (lv_room (Nat.le_of_ble_eq_true rfl)) dMo_power_86 ⟨Nat.zero_le _, Nat.zero_le _⟩) hP hD hS hA [0, 1, 2, 3, 4, 5, 6, 7, 8, 9, 10, 11, 12, 13] [] rfl (fun v_ => wMo dA mo ft lf hg kk tx pn tk fm tO tl mI mT mS mC mL mB mF mU mX mP mK v_.1 v_.2 []) (fun _ => rfl) ([] : va_W) rfl (fun _ => rfl) [mo, mo + 1, mo + 2, mo + 3, mo + 4, mo + 5, mo + 6, mo + 7, mo + 8, mo + 9, mo + 10, mo + 11, mo + 12, mo + 13] rfl (fun _ => rfl) (fun _ => rfl) (fun u_ H locs hq86 hP hD hS => ?_)
                obtain ⟨D1_86, Z1_86⟩ := u_
                have hP : va_P (dC, dI) vwCl (wMo dA mo ft lf hg kk tx pn tk fm tO tl mI mT mS mC mL mB mF mU mX mP mK D1_86 Z1_86 []) H := hP
                have hD : va_D A (wMo dA mo ft lf hg kk tx pn tk fm tO tl mI mT mS mC mL mB mF mU mX mP mK D1_86 Z1_86 []) := hD
                have hq86 : MR D1_86 Z1_86 1 ((ab xa.v) * PW 10 0) ∧ others D9 Z9 D1_86 Z1_86 1 := hq86
                rw [PW_0, Int.mul_one] at hq86
                have h0 := MR_o hq86.2 (by decide) hJ
                have hz1 := M_sz hq86.1 hbx.2 (by decide)
                have hz0 := hq86.2.2 0 (by decide)
                refine lv_aload_n hx hb dMo_power_89 rfl (lv_at hl 4 rfl) ?_
                refine lv_iconst (v := iI 2) hx hb dMo_power_90 rfl ?_
                refine lv_iconst (v := iI 0) hx hb dMo_power_91 rfl ?_
                refine lv_iconst (v := iI 1) hx hb dMo_power_92 rfl ?_
                refine cv_v (va_runV (C := "MacroReckonerModel") (As := [.int (iI 2), .int (iI 0), .int (iI 1)]) (rest := []) ⟨hx, hb, hml, hown, hts⟩ (cMo_multiply l dC dI dA mo ft lf hg kk tx pn tk fm tO tl mI mT mS mC mL mB mF mU mX mP mK D1_86 Z1_86 2 0 1 (PW (ab xa.v) j) (ab xa.v) (by omega) (by exact h0) (by exact hq86.1) (by omega) H.size) (cwV 3 hts (gdV wt5_25 wt5_27 ws5_3 wt1_8 wt5_28) rfl rfl rfl ⟨rfl, by decide, by decide, by decide +kernel⟩ ⟨by decide, by decide⟩) (preV (q := ("MacroReckonerModel", TMo, 23)) hK hP hD hS hA XN_ok trivial [0, 1, 2, 3, 4, 5, 6, 7, 8, 9, 10, 11, 12, 13] rfl rfl 0 rfl rfl) rfl rfl hl.1 rfl (lv_room (Nat.le_of_ble_eq_true rfl)) dMo_power_93 ⟨Nat.zero_le _, Nat.zero_le _⟩) hP hD hS hA [0, 1, 2, 3, 4, 5, 6, 7, 8, 9, 10, 11, 12, 13] [] rfl (fun v_ => wMo dA mo ft lf hg kk tx pn tk fm tO tl mI mT mS mC mL mB mF mU mX mP mK v_.1 v_.2 []) (fun _ => rfl) ([] : va_W) rfl (fun _ => rfl) [mo, mo + 1, mo + 2, mo + 3, mo + 4, mo + 5, mo + 6, mo + 7, mo + 8, mo + 9, mo + 10, mo + 11, mo + 12, mo + 13] rfl (fun _ => rfl) (fun _ => rfl) (fun u_ H locs hq93 hP hD hS => ?_)
                obtain ⟨D1_93, Z1_93⟩ := u_
                have hP : va_P (dC, dI) vwCl (wMo dA mo ft lf hg kk tx pn tk fm tO tl mI mT mS mC mL mB mF mU mX mP mK D1_93 Z1_93 []) H := hP
                have hD : va_D A (wMo dA mo ft lf hg kk tx pn tk fm tO tl mI mT mS mC mL mB mF mU mX mP mK D1_93 Z1_93 []) := hD
                have hq93 : MR D1_93 Z1_93 2 ((PW (ab xa.v) j) * (ab xa.v)) ∧ others D1_86 Z1_86 D1_93 Z1_93 2 := hq93
                refine lv_aload_n hx hb dMo_power_96 rfl (lv_at hl 4 rfl) ?_
                refine lv_iconst (v := iI 0) hx hb dMo_power_97 rfl ?_
                refine lv_iconst (v := iI 2) hx hb dMo_power_98 rfl ?_
                refine cv_v (va_runV (C := "MacroReckonerModel") (As := [.int (iI 0), .int (iI 2)]) (rest := []) ⟨hx, hb, hml, hown, hts⟩ (cMo_copy l dC dI dA mo ft lf hg kk tx pn tk fm tO tl mI mT mS mC mL mB mF mU mX mP mK D1_93 Z1_93 0 2 (PW (ab xa.v) j * ab xa.v) (by omega) (by exact hq93.1) H.size) (cwV 2 hts (gdV wt5_57 wt5_59 ws5_11 wt1_8 wt5_60) rfl rfl rfl ⟨rfl, by decide, by decide, by decide +kernel⟩ ⟨by decide, by decide⟩) (preV (q := ("MacroReckonerModel", TMo, 23)) hK hP hD hS hA XN_ok trivial [0, 1, 2, 3, 4, 5, 6, 7, 8, 9, 10, 11, 12, 13] rfl rfl 0 rfl rfl) rfl rfl hl.1 rfl (lv_room (Nat.le_of_ble_eq_true rfl)) dMo_power_99 ⟨Nat.zero_le _, Nat.zero_le _⟩) hP hD hS hA [0, 1, 2, 3, 4, 5, 6, 7, 8, 9, 10, 11, 12, 13] [] rfl (fun v_ => wMo dA mo ft lf hg kk tx pn tk fm tO tl mI mT mS mC mL mB mF mU mX mP mK v_.1 v_.2 []) (fun _ => rfl) ([] : va_W) rfl (fun _ => rfl) [mo, mo + 1, mo + 2, mo + 3, mo + 4, mo + 5, mo + 6, mo + 7, mo + 8, mo + 9, mo + 10, mo + 11, mo + 12, mo + 13] rfl (fun _ => rfl) (fun _ => rfl) (fun u_ H locs hq99 hP hD hS => ?_)
                obtain ⟨D1_99, Z1_99⟩ := u_
                have hP : va_P (dC, dI) vwCl (wMo dA mo ft lf hg kk tx pn tk fm tO tl mI mT mS mC mL mB mF mU mX mP mK D1_99 Z1_99 []) H := hP
                have hD : va_D A (wMo dA mo ft lf hg kk tx pn tk fm tO tl mI mT mS mC mL mB mF mU mX mP mK D1_99 Z1_99 []) := hD
                have hq99 : MR D1_99 Z1_99 0 (PW (ab xa.v) j * ab xa.v) ∧ others D1_93 Z1_93 D1_99 Z1_99 0 := hq99
                refine lv_iinc (k := 0) (lv' := [(6, .int (iI (j + 1))), (5, .int (iI (n9 * (mC x)))), (4, .int (iI n9)), (3, .int (iI v9)), (0, .ref mo), (1, .int (iI x)), (2, .int (iI y))]) (v := iI (j + 1)) hx hb dMo_power_102 hl rfl (iI_add _ _).symm (by decide) rfl (fun ls hl => ?_)
                refine lv_goto (tgt := 63) hx hb dMo_power_105 (by decide) ?_
                exact ih63 D1_99 Z1_99 (j + 1) H locs ls (by omega) (by rw [PW_s hj.1]; exact hq99.1) (by omega) hP hD hS (lv_sub hl [0, 1, 2, 3, 4, 5, 6] rfl)
        exact L63 _ D1_57 Z1_57 0 H locs ls (by omega) (by have h := hq57.1; rw [PW_0] at h ⊢; exact h) (Nat.lt_succ_self _) hP hD hS (lv_sub hl [0, 1, 2, 3, 4, 5, 6] rfl)
      · refine lv_bipush (v := iI (-5)) hx hb dMo_power_28 (by decide) ?_
        exact rt_i hx hb hr hlocks hK hS dMo_power_30 (mT, mS, mC, mL, mB, mD, mZ) hP hD (show (((0 < yb.sc ∨ 100 ≤ ab yb.v) ∧ (-5) = -4) ∨ (yb.sc = 0 ∧ ab yb.v < 100 ∧ ((yb.v < 0 ∧ xa.v = 0 ∧ (-5) = -5) ∨ (¬ (yb.v < 0 ∧ xa.v = 0) ∧ (((200 < ab yb.v * xa.sc ∨ PW 10 200 ≤ PW (ab xa.v) (ab yb.v)) ∧ (-5) = -7) ∨ (ab yb.v * xa.sc ≤ 200 ∧ PW (ab xa.v) (ab yb.v) < PW 10 200 ∧ ((yb.v < 0 ∧ mres (-5) (szn (if ab yb.v % 2 = 1 then xa.v else 1) (PW 10 (ab yb.v * xa.sc + kk) / PW (ab xa.v) (ab yb.v))) kk mT mS mC mL mB) ∨ (0 ≤ yb.v ∧ mres (-5) (szn (if ab yb.v % 2 = 1 then xa.v else 1) (PW (ab xa.v) (ab yb.v) / PW 10 (ab yb.v * xa.sc - min (ab yb.v * xa.sc) (max kk xa.sc)))) (min (ab yb.v * xa.sc) (max kk xa.sc)) mT mS mC mL mB)))))))) ∧ thO mT mS mC mL mB mT mS mC mL mB 46 from by exact ⟨Or.inr ⟨hsl.1, hsl.2.1, Or.inl ⟨by omega, hS0.mp (by omega), rfl⟩⟩, thO_r⟩)
  · refine lv_bipush (v := iI (-4)) hx hb dMo_power_12 (by decide) ?_
    exact rt_i hx hb hr hlocks hK hS dMo_power_14 (mT, mS, mC, mL, mB, mD, mZ) hP hD (show (((0 < yb.sc ∨ 100 ≤ ab yb.v) ∧ (-4) = -4) ∨ (yb.sc = 0 ∧ ab yb.v < 100 ∧ ((yb.v < 0 ∧ xa.v = 0 ∧ (-4) = -5) ∨ (¬ (yb.v < 0 ∧ xa.v = 0) ∧ (((200 < ab yb.v * xa.sc ∨ PW 10 200 ≤ PW (ab xa.v) (ab yb.v)) ∧ (-4) = -7) ∨ (ab yb.v * xa.sc ≤ 200 ∧ PW (ab xa.v) (ab yb.v) < PW 10 200 ∧ ((yb.v < 0 ∧ mres (-4) (szn (if ab yb.v % 2 = 1 then xa.v else 1) (PW 10 (ab yb.v * xa.sc + kk) / PW (ab xa.v) (ab yb.v))) kk mT mS mC mL mB) ∨ (0 ≤ yb.v ∧ mres (-4) (szn (if ab yb.v % 2 = 1 then xa.v else 1) (PW (ab xa.v) (ab yb.v) / PW 10 (ab yb.v * xa.sc - min (ab yb.v * xa.sc) (max kk xa.sc)))) (min (ab yb.v * xa.sc) (max kk xa.sc)) mT mS mC mL mB)))))))) ∧ thO mT mS mC mL mB mT mS mC mL mB 46 from by refine ⟨Or.inl ⟨?_, rfl⟩, thO_r⟩; rcases hq2 with ⟨h1, h2⟩ | ⟨h1, h2, h3⟩; exact h2; have h4 := ab_nn (x := yb.v); unfold ab at h2; omega)

theorem dMo_rootOf_0 : decode prog_9_method_26_code 0 = .ok (.aload_n 0, 1) := by decide +kernel
theorem dMo_rootOf_1 : decode prog_9_method_26_code 1 = .ok (.getfield 17, 3) := by decide +kernel
theorem dMo_rootOf_4 : decode prog_9_method_26_code 4 = .ok (.iload_n 1, 1) := by decide +kernel
theorem dMo_rootOf_5 : decode prog_9_method_26_code 5 = .ok (.iaload, 1) := by decide +kernel
theorem dMo_rootOf_6 : decode prog_9_method_26_code 6 = .ok (.ifCond .ge 6, 3) := by decide +kernel
theorem dMo_rootOf_9 : decode prog_9_method_26_code 9 = .ok (.bipush (-6), 2) := by decide +kernel
theorem dMo_rootOf_11 : decode prog_9_method_26_code 11 = .ok (.ireturn, 1) := by decide +kernel
theorem dMo_rootOf_12 : decode prog_9_method_26_code 12 = .ok (.aload_n 0, 1) := by decide +kernel
theorem dMo_rootOf_13 : decode prog_9_method_26_code 13 = .ok (.getfield 98, 3) := by decide +kernel
theorem dMo_rootOf_16 : decode prog_9_method_26_code 16 = .ok (.aload_n 0, 1) := by decide +kernel
theorem dMo_rootOf_17 : decode prog_9_method_26_code 17 = .ok (.getfield 20, 3) := by decide +kernel
theorem dMo_rootOf_20 : decode prog_9_method_26_code 20 = .ok (.iload_n 1, 1) := by decide +kernel
theorem dMo_rootOf_21 : decode prog_9_method_26_code 21 = .ok (.iaload, 1) := by decide +kernel
theorem dMo_rootOf_22 : decode prog_9_method_26_code 22 = .ok (.invokestatic 89, 3) := by decide +kernel
theorem dMo_rootOf_25 : decode prog_9_method_26_code 25 = .ok (.istore_n 2, 1) := by decide +kernel
theorem dMo_rootOf_26 : decode prog_9_method_26_code 26 = .ok (.aload_n 0, 1) := by decide +kernel
theorem dMo_rootOf_27 : decode prog_9_method_26_code 27 = .ok (.iconst 0, 1) := by decide +kernel
theorem dMo_rootOf_28 : decode prog_9_method_26_code 28 = .ok (.iload_n 1, 1) := by decide +kernel
theorem dMo_rootOf_29 : decode prog_9_method_26_code 29 = .ok (.iconst 2, 1) := by decide +kernel
theorem dMo_rootOf_30 : decode prog_9_method_26_code 30 = .ok (.iload_n 2, 1) := by decide +kernel
theorem dMo_rootOf_31 : decode prog_9_method_26_code 31 = .ok (.imul, 1) := by decide +kernel
theorem dMo_rootOf_32 : decode prog_9_method_26_code 32 = .ok (.aload_n 0, 1) := by decide +kernel
theorem dMo_rootOf_33 : decode prog_9_method_26_code 33 = .ok (.getfield 20, 3) := by decide +kernel
theorem dMo_rootOf_36 : decode prog_9_method_26_code 36 = .ok (.iload_n 1, 1) := by decide +kernel
theorem dMo_rootOf_37 : decode prog_9_method_26_code 37 = .ok (.iaload, 1) := by decide +kernel
theorem dMo_rootOf_38 : decode prog_9_method_26_code 38 = .ok (.isub, 1) := by decide +kernel
theorem dMo_rootOf_39 : decode prog_9_method_26_code 39 = .ok (.invokevirtual 92, 3) := by decide +kernel
theorem dMo_rootOf_42 : decode prog_9_method_26_code 42 = .ok (.aload_n 0, 1) := by decide +kernel
theorem dMo_rootOf_43 : decode prog_9_method_26_code 43 = .ok (.invokevirtual 111, 3) := by decide +kernel
theorem dMo_rootOf_46 : decode prog_9_method_26_code 46 = .ok (.aload_n 0, 1) := by decide +kernel
theorem dMo_rootOf_47 : decode prog_9_method_26_code 47 = .ok (.iconst 2, 1) := by decide +kernel
theorem dMo_rootOf_48 : decode prog_9_method_26_code 48 = .ok (.iconst 1, 1) := by decide +kernel
theorem dMo_rootOf_49 : decode prog_9_method_26_code 49 = .ok (.iload_n 2, 1) := by decide +kernel
theorem dMo_rootOf_50 : decode prog_9_method_26_code 50 = .ok (.invokevirtual 79, 3) := by decide +kernel
theorem dMo_rootOf_53 : decode prog_9_method_26_code 53 = .ok (.ireturn, 1) := by decide +kernel
abbrev qMo_rootOf (dC : Nat → ClassId) (dI : Nat → Nat → Nat) (dA : Nat → ClassId) (mo : Nat) (ft : Int) (lf : Int) (hg : Int) (kk : Int) (tx : Int) (pn : Int) (tk : Int) (fm : Int) (tO : Int) (tl : Int) (mI : Int → Int) (mT : Int → Int) (mS : Int → Int) (mC : Int → Int) (mL : Int → Int) (mB : Int → Int) (mF : Int → Int) (mU : Int → Int) (mX : Int → Int) (mP : Int → Int) (mK : Int → Int) (mD : Int → Int) (mZ : Int → Int) (x : Int) (xa : Th) (A : Nat → Prop) : Array Value → State → Outcome → State → Prop := QI (dC, dI) vwCl (tyA dA) (fun (r : Int) (v_ : (Int → Int) × (Int → Int) × (Int → Int) × (Int → Int) × (Int → Int) × (Int → Int) × (Int → Int)) => ((xa.v < 0 ∧ r = -6) ∨ (0 ≤ xa.v ∧ ∃ rt, isq rt (xa.v * PW 10 (2 * max kk xa.sc - xa.sc)) ∧ mres r rt (max kk xa.sc) v_.1 v_.2.1 v_.2.2.1 v_.2.2.2.1 v_.2.2.2.2.1)) ∧ thO mT mS mC mL mB v_.1 v_.2.1 v_.2.2.1 v_.2.2.2.1 v_.2.2.2.2.1 46) (fun (v_ : (Int → Int) × (Int → Int) × (Int → Int) × (Int → Int) × (Int → Int) × (Int → Int) × (Int → Int)) => wMo dA mo ft lf hg kk tx pn tk fm tO tl mI v_.1 v_.2.1 v_.2.2.1 v_.2.2.2.1 v_.2.2.2.2.1 mF mU mX mP mK v_.2.2.2.2.2.1 v_.2.2.2.2.2.2 []) A
abbrev rmMo_rootOf : Room := { frames := 3, cells := 0, slots := 0, locals := 69 }
set_option maxRecDepth 100000 in
set_option maxHeartbeats 1000000 in
theorem cMo_rootOf (l : Launch) (dC : Nat → ClassId) (dI : Nat → Nat → Nat) (dA : Nat → ClassId) (mo : Nat) (ft : Int) (lf : Int) (hg : Int) (kk : Int) (tx : Int) (pn : Int) (tk : Int) (fm : Int) (tO : Int) (tl : Int) (mI : Int → Int) (mT : Int → Int) (mS : Int → Int) (mC : Int → Int) (mL : Int → Int) (mB : Int → Int) (mF : Int → Int) (mU : Int → Int) (mX : Int → Int) (mP : Int → Int) (mK : Int → Int) (mD : Int → Int) (mZ : Int → Int) (x : Int) (xa : Th) (hxy : 0 ≤ x ∧ x ≤ 46) (hTa : MT mT mS mC mL mB x xa) (hta : xa.t = 0) (hkk : 0 ≤ kk ∧ kk ≤ 40) (sz : Nat) : Met l yMo_rootOf wsMo_rootOf rmMo_rootOf (PC (dC, dI) vwCl (tyA dA) XN [.ref mo, .int (iI x)] (wMo dA mo ft lf hg kk tx pn tk fm tO tl mI mT mS mC mL mB mF mU mX mP mK mD mZ []) sz) (qMo_rootOf dC dI dA mo ft lf hg kk tx pn tk fm tO tl mI mT mS mC mL mB mF mU mX mP mK mD mZ x xa (va_A (wMo dA mo ft lf hg kk tx pn tk fm tO tl mI mT mS mC mL mB mF mU mX mP mK mD mZ []) sz)) 0 0 (va_A (wMo dA mo ft lf hg kk tx pn tk fm tO tl mI mT mS mC mL mB mF mU mX mP mK mD mZ []) sz) := by
  refine met_of (cc := prog_9_method_26_code) (maxL := 3) (ret := (some .int)) (Qc := qMo_rootOf dC dI dA mo ft lf hg kk tx pn tk fm tO tl mI mT mS mC mL mB mF mU mX mP mK mD mZ x xa) XN_ok (by decide) rfl (Nat.le_of_ble_eq_true rfl) ?_
  intro p e s m below meth c ls A hx hb hr hml hown hts hlocks hnm hK hP hD hA hX hS hl
  have hl : lv_has ls 3 [(0, .ref mo), (1, .int (iI x))] := hl
  have hown : s.vm.findClass "MacroReckonerModel" = some m.cls := hown
  obtain ⟨H, hH⟩ : ∃ H : Heap, H = s.heap := ⟨_, rfl⟩
  obtain ⟨locs, hlo⟩ : ∃ L : List Loc, L = [] := ⟨_, rfl⟩
  have hP : va_P (dC, dI) vwCl (wMo dA mo ft lf hg kk tx pn tk fm tO tl mI mT mS mC mL mB mF mU mX mP mK mD mZ []) H := hH ▸ hP
  have hS : va_S A s.heap H locs := by rw [hH, hlo]; exact hS
  suffices hgo : W p l e rmMo_rootOf s m [.ref mo, .int (iI x)].toArray below meth c H locs 0 0 (MQ below (qMo_rootOf dC dI dA mo ft lf hg kk tx pn tk fm tO tl mI mT mS mC mL mB mF mU mX mP mK mD mZ x xa A) [.ref mo, .int (iI x)].toArray s 0 0 A) (F0 m 0 ls []) by rw [hH, hlo] at hgo; exact hgo
  clear hH hlo
  obtain ⟨hCx, hscx, hTx, hSx⟩ := MT_n hTa hta
  have hbx := TD_bd hTx
  have hlx := (MT_b hTa).2.2.2.2
  refine lv_aload_n hx hb dMo_rootOf_0 rfl (lv_at hl 0 rfl) ?_
  refine va_get (D := (dC, dI)) (ci := 7) (v := .ref (mo + 3)) (C := "MacroReckonerModel") (T := TMo) (N := 23) hx hb hts inMo hown hK hP 0 rfl rfl 4 (by decide) (hts _ wt4_62) (fun _ h9 => h9) rfl dMo_rootOf_1 ?_
  refine lv_iload_n hx hb dMo_rootOf_4 rfl (lv_at hl 1 rfl) ?_
  refine iv_iald hx hb hK hP 3 0 rfl rfl (by decide) dMo_rootOf_5 (by omega) (by omega) ?_
  refine iv_if_ge (tgt := 12) hx hb dMo_rootOf_6 (by decide) ⟨by omega, by omega⟩ (fun hc6 => ?_) (fun hc6 => ?_)
  · have hnn : 0 ≤ xa.v := by unfold sgs at hSx; omega
    rw [ab_pos hnn] at hTx hbx
    refine lv_aload_n hx hb dMo_rootOf_12 rfl (lv_at hl 0 rfl) ?_
    refine va_get (D := (dC, dI)) (ci := 7) (v := .int (iI kk)) (C := "MacroReckonerModel") (T := TMo) (N := 23) hx hb hts inMo hown hK hP 0 rfl rfl 9 (by decide) (hts _ wt4_67) (fun _ h9 => h9) rfl dMo_rootOf_13 ?_
    refine lv_aload_n hx hb dMo_rootOf_16 rfl (lv_at hl 0 rfl) ?_
    refine va_get (D := (dC, dI)) (ci := 7) (v := .ref (mo + 4)) (C := "MacroReckonerModel") (T := TMo) (N := 23) hx hb hts inMo hown hK hP 0 rfl rfl 5 (by decide) (hts _ wt4_63) (fun _ h9 => h9) rfl dMo_rootOf_17 ?_
    refine lv_iload_n hx hb dMo_rootOf_20 rfl (lv_at hl 1 rfl) ?_
    refine iv_iald hx hb hK hP 4 0 rfl rfl (by decide) dMo_rootOf_21 (by omega) (by omega) ?_
    refine cv_i (va_runS (As := [.int (iI kk), .int (iI (mC x))]) (rest := []) ⟨hx, hb, hml, hown, hts⟩ (cMo_greater l dC dI dA kk (mC x) (by omega) H.size) (cwS 2 hts (gdS wt4_223 wt4_224 wt1_8 wt4_225) rfl rfl rfl ⟨rfl, by decide, by decide, by decide +kernel⟩ ⟨by decide, by decide⟩) (preS hK hP hD hS hA XN_ok trivial [] rfl rfl) rfl rfl hl.1 rfl (lv_room (Nat.le_of_ble_eq_true rfl)) dMo_rootOf_22 ⟨Nat.zero_le _, Nat.zero_le _⟩) hP hD hS hA [] [0, 1, 2, 3, 4, 5, 6, 7, 8, 9, 10, 11, 12, 13] rfl (fun v_ => wMo dA mo ft lf hg kk tx pn tk fm tO tl mI mT mS mC mL mB mF mU mX mP mK mD mZ []) (fun _ => rfl) (wMo dA mo ft lf hg kk tx pn tk fm tO tl mI mT mS mC mL mB mF mU mX mP mK mD mZ []) rfl (fun _ => rfl) [mo, mo + 1, mo + 2, mo + 3, mo + 4, mo + 5, mo + 6, mo + 7, mo + 8, mo + 9, mo + 10, mo + 11, mo + 12, mo + 13] rfl (fun _ => rfl) (fun _ => rfl) (fun t9 u_ H locs hq22 hP hD hS => ?_)
    have hP : va_P (dC, dI) vwCl (wMo dA mo ft lf hg kk tx pn tk fm tO tl mI mT mS mC mL mB mF mU mX mP mK mD mZ []) H := hP
    have hD : va_D A (wMo dA mo ft lf hg kk tx pn tk fm tO tl mI mT mS mC mL mB mF mU mX mP mK mD mZ []) := hD
    have hq22 : t9 = max kk (mC x) := hq22
    rw [hCx] at hq22
    refine lv_istore_n (lv' := [(2, .int (iI t9)), (0, .ref mo), (1, .int (iI x))]) hx hb dMo_rootOf_25 rfl hl (by decide) rfl (fun ls hl => ?_)
    refine lv_aload_n hx hb dMo_rootOf_26 rfl (lv_at hl 1 rfl) ?_
    refine lv_iconst (v := iI 0) hx hb dMo_rootOf_27 rfl ?_
    refine lv_iload_n hx hb dMo_rootOf_28 rfl (lv_at hl 2 rfl) ?_
    refine lv_iconst (v := iI 2) hx hb dMo_rootOf_29 rfl ?_
    refine lv_iload_n hx hb dMo_rootOf_30 rfl (lv_at hl 0 rfl) ?_
    refine iv_imul hx hb dMo_rootOf_31 ?_
    refine lv_aload_n hx hb dMo_rootOf_32 rfl (lv_at hl 1 rfl) ?_
    refine va_get (D := (dC, dI)) (ci := 7) (v := .ref (mo + 4)) (C := "MacroReckonerModel") (T := TMo) (N := 23) hx hb hts inMo hown hK hP 0 rfl rfl 5 (by decide) (hts _ wt4_63) (fun _ h9 => h9) rfl dMo_rootOf_33 ?_
    refine lv_iload_n hx hb dMo_rootOf_36 rfl (lv_at hl 2 rfl) ?_
    refine iv_iald hx hb hK hP 4 0 rfl rfl (by decide) dMo_rootOf_37 (by omega) (by omega) ?_
    refine iv_isub hx hb dMo_rootOf_38 ?_
    refine cv_v (va_runV (C := "MacroReckonerModel") (As := [.int (iI 0), .int (iI x), .int (iI ((2 * t9) - (mC x)))]) (rest := []) ⟨hx, hb, hml, hown, hts⟩ (cMo_load l dC dI dA mo ft lf hg kk tx pn tk fm tO tl mI mT mS mC mL mB mF mU mX mP mK mD mZ 0 x ((2 * t9) - (mC x)) xa.v (by omega) (by omega) (by exact hTx) H.size) (cwV 3 hts (gdV wt4_226 wt4_228 ws4_10 wt1_8 wt4_229) rfl rfl rfl ⟨rfl, by decide, by decide, by decide +kernel⟩ ⟨by decide, by decide⟩) (preV (q := ("MacroReckonerModel", TMo, 23)) hK hP hD hS hA XN_ok trivial [0, 1, 2, 3, 4, 5, 6, 7, 8, 9, 10, 11, 12, 13] rfl rfl 0 rfl rfl) rfl rfl hl.1 rfl (lv_room (Nat.le_of_ble_eq_true rfl)) dMo_rootOf_39 ⟨Nat.zero_le _, Nat.zero_le _⟩) hP hD hS hA [0, 1, 2, 3, 4, 5, 6, 7, 8, 9, 10, 11, 12, 13] [] rfl (fun v_ => wMo dA mo ft lf hg kk tx pn tk fm tO tl mI mT mS mC mL mB mF mU mX mP mK v_.1 v_.2 []) (fun _ => rfl) ([] : va_W) rfl (fun _ => rfl) [mo, mo + 1, mo + 2, mo + 3, mo + 4, mo + 5, mo + 6, mo + 7, mo + 8, mo + 9, mo + 10, mo + 11, mo + 12, mo + 13] rfl (fun _ => rfl) (fun _ => rfl) (fun u_ H locs hq39 hP hD hS => ?_)
    obtain ⟨D1_39, Z1_39⟩ := u_
    have hP : va_P (dC, dI) vwCl (wMo dA mo ft lf hg kk tx pn tk fm tO tl mI mT mS mC mL mB mF mU mX mP mK D1_39 Z1_39 []) H := hP
    have hD : va_D A (wMo dA mo ft lf hg kk tx pn tk fm tO tl mI mT mS mC mL mB mF mU mX mP mK D1_39 Z1_39 []) := hD
    have hq39 : MR D1_39 Z1_39 0 (xa.v * PW 10 ((2 * t9) - (mC x))) ∧ others mD mZ D1_39 Z1_39 0 := hq39
    rw [hCx, hq22] at hq39
    refine lv_aload_n hx hb dMo_rootOf_42 rfl (lv_at hl 1 rfl) ?_
    refine cv_v (va_runV (C := "MacroReckonerModel") (As := []) (rest := []) ⟨hx, hb, hml, hown, hts⟩ (cMo_root l dC dI dA mo ft lf hg kk tx pn tk fm tO tl mI mT mS mC mL mB mF mU mX mP mK D1_39 Z1_39 (xa.v * PW 10 (2 * max kk xa.sc - xa.sc)) (by exact hq39.1) (by have h1 := (w60 hbx.1 hbx.2 (show 0 ≤ 2 * max kk xa.sc - xa.sc by omega) (by omega)).1; have h2 := PW_mono (b := 10) (i := 60 + (2 * max kk xa.sc - xa.sc)) (j := 200) (by decide) (by omega) (by omega); omega) H.size) (cwV 0 hts (gdV wt5_65 wt5_67 ws5_13 wt1_8 wt5_68) rfl rfl rfl ⟨rfl, by decide, by decide, by decide +kernel⟩ ⟨by decide, by decide⟩) (preV (q := ("MacroReckonerModel", TMo, 23)) hK hP hD hS hA XN_ok trivial [0, 1, 2, 3, 4, 5, 6, 7, 8, 9, 10, 11, 12, 13] rfl rfl 0 rfl rfl) rfl rfl hl.1 rfl (lv_room (Nat.le_of_ble_eq_true rfl)) dMo_rootOf_43 ⟨Nat.zero_le _, Nat.zero_le _⟩) hP hD hS hA [0, 1, 2, 3, 4, 5, 6, 7, 8, 9, 10, 11, 12, 13] [] rfl (fun v_ => wMo dA mo ft lf hg kk tx pn tk fm tO tl mI mT mS mC mL mB mF mU mX mP mK v_.1 v_.2.1 []) (fun _ => rfl) ([] : va_W) rfl (fun _ => rfl) [mo, mo + 1, mo + 2, mo + 3, mo + 4, mo + 5, mo + 6, mo + 7, mo + 8, mo + 9, mo + 10, mo + 11, mo + 12, mo + 13] rfl (fun _ => rfl) (fun _ => rfl) (fun u_ H locs hq43 hP hD hS => ?_)
    obtain ⟨D1_43, Z1_43, rt_43⟩ := u_
    have hP : va_P (dC, dI) vwCl (wMo dA mo ft lf hg kk tx pn tk fm tO tl mI mT mS mC mL mB mF mU mX mP mK D1_43 Z1_43 []) H := hP
    have hD : va_D A (wMo dA mo ft lf hg kk tx pn tk fm tO tl mI mT mS mC mL mB mF mU mX mP mK D1_43 Z1_43 []) := hD
    have hq43 : MR D1_43 Z1_43 2 rt_43 ∧ isq rt_43 (xa.v * PW 10 (2 * max kk xa.sc - xa.sc)) := hq43
    refine lv_aload_n hx hb dMo_rootOf_46 rfl (lv_at hl 1 rfl) ?_
    refine lv_iconst (v := iI 2) hx hb dMo_rootOf_47 rfl ?_
    refine lv_iconst (v := iI 1) hx hb dMo_rootOf_48 rfl ?_
    refine lv_iload_n hx hb dMo_rootOf_49 rfl (lv_at hl 0 rfl) ?_
    refine cv_i (va_runV (C := "MacroReckonerModel") (As := [.int (iI 2), .int (iI 1), .int (iI t9)]) (rest := []) ⟨hx, hb, hml, hown, hts⟩ (cMo_make l dC dI dA mo ft lf hg kk tx pn tk fm tO tl mI mT mS mC mL mB mF mU mX mP mK D1_43 Z1_43 2 1 t9 rt_43 rt_43 (by omega) (by exact hq43.1) (by omega) (by omega) (by exact sm_0 (by decide)) H.size) (cwV 3 hts (gdV wt4_195 wt4_197 ws4_3 wt1_8 wt4_198) rfl rfl rfl ⟨rfl, by decide, by decide, by decide +kernel⟩ ⟨by decide, by decide⟩) (preV (q := ("MacroReckonerModel", TMo, 23)) hK hP hD hS hA XN_ok trivial [0, 1, 2, 3, 4, 5, 6, 7, 8, 9, 10, 11, 12, 13] rfl rfl 0 rfl rfl) rfl rfl hl.1 rfl (lv_room (Nat.le_of_ble_eq_true rfl)) dMo_rootOf_50 ⟨Nat.zero_le _, Nat.zero_le _⟩) hP hD hS hA [0, 1, 2, 3, 4, 5, 6, 7, 8, 9, 10, 11, 12, 13] [] rfl (fun v_ => wMo dA mo ft lf hg kk tx pn tk fm tO tl mI v_.1 v_.2.1 v_.2.2.1 v_.2.2.2.1 v_.2.2.2.2 mF mU mX mP mK D1_43 Z1_43 []) (fun _ => rfl) ([] : va_W) rfl (fun _ => rfl) [mo, mo + 1, mo + 2, mo + 3, mo + 4, mo + 5, mo + 6, mo + 7, mo + 8, mo + 9, mo + 10, mo + 11, mo + 12, mo + 13] rfl (fun _ => rfl) (fun _ => rfl) (fun r50 u_ H locs hq50 hP hD hS => ?_)
    obtain ⟨T1_50, S1_50, C1_50, L1_50, B1_50⟩ := u_
    have hP : va_P (dC, dI) vwCl (wMo dA mo ft lf hg kk tx pn tk fm tO tl mI T1_50 S1_50 C1_50 L1_50 B1_50 mF mU mX mP mK D1_43 Z1_43 []) H := hP
    have hD : va_D A (wMo dA mo ft lf hg kk tx pn tk fm tO tl mI T1_50 S1_50 C1_50 L1_50 B1_50 mF mU mX mP mK D1_43 Z1_43 []) := hD
    have hq50 : mres r50 rt_43 t9 T1_50 S1_50 C1_50 L1_50 B1_50 ∧ thO mT mS mC mL mB T1_50 S1_50 C1_50 L1_50 B1_50 46 := hq50
    exact rt_i hx hb hr hlocks hK hS dMo_rootOf_53 (T1_50, S1_50, C1_50, L1_50, B1_50, D1_43, Z1_43) hP hD (show ((xa.v < 0 ∧ r50 = -6) ∨ (0 ≤ xa.v ∧ ∃ rt, isq rt (xa.v * PW 10 (2 * max kk xa.sc - xa.sc)) ∧ mres r50 rt (max kk xa.sc) T1_50 S1_50 C1_50 L1_50 B1_50)) ∧ thO mT mS mC mL mB T1_50 S1_50 C1_50 L1_50 B1_50 46 from by rw [hq22] at hq50; exact ⟨Or.inr ⟨hnn, rt_43, hq43.2, hq50.1⟩, hq50.2⟩)
  · refine lv_bipush (v := iI (-6)) hx hb dMo_rootOf_9 (by decide) ?_
    exact rt_i hx hb hr hlocks hK hS dMo_rootOf_11 (mT, mS, mC, mL, mB, mD, mZ) hP hD (show ((xa.v < 0 ∧ (-6) = -6) ∨ (0 ≤ xa.v ∧ ∃ rt, isq rt (xa.v * PW 10 (2 * max kk xa.sc - xa.sc)) ∧ mres (-6) rt (max kk xa.sc) mT mS mC mL mB)) ∧ thO mT mS mC mL mB mT mS mC mL mB 46 from by refine ⟨Or.inl ⟨?_, rfl⟩, thO_r⟩; unfold sgs at hSx; omega)

theorem dMo_order_0 : decode prog_9_method_27_code 0 = .ok (.aload_n 0, 1) := by decide +kernel
theorem dMo_order_1 : decode prog_9_method_27_code 1 = .ok (.getfield 17, 3) := by decide +kernel
theorem dMo_order_4 : decode prog_9_method_27_code 4 = .ok (.iload_n 1, 1) := by decide +kernel
theorem dMo_order_5 : decode prog_9_method_27_code 5 = .ok (.iaload, 1) := by decide +kernel
theorem dMo_order_6 : decode prog_9_method_27_code 6 = .ok (.aload_n 0, 1) := by decide +kernel
theorem dMo_order_7 : decode prog_9_method_27_code 7 = .ok (.getfield 17, 3) := by decide +kernel
theorem dMo_order_10 : decode prog_9_method_27_code 10 = .ok (.iload_n 2, 1) := by decide +kernel
theorem dMo_order_11 : decode prog_9_method_27_code 11 = .ok (.iaload, 1) := by decide +kernel
theorem dMo_order_12 : decode prog_9_method_27_code 12 = .ok (.if_icmp .eq 17, 3) := by decide +kernel
theorem dMo_order_15 : decode prog_9_method_27_code 15 = .ok (.aload_n 0, 1) := by decide +kernel
theorem dMo_order_16 : decode prog_9_method_27_code 16 = .ok (.getfield 17, 3) := by decide +kernel
theorem dMo_order_19 : decode prog_9_method_27_code 19 = .ok (.iload_n 1, 1) := by decide +kernel
theorem dMo_order_20 : decode prog_9_method_27_code 20 = .ok (.iaload, 1) := by decide +kernel
theorem dMo_order_21 : decode prog_9_method_27_code 21 = .ok (.aload_n 0, 1) := by decide +kernel
theorem dMo_order_22 : decode prog_9_method_27_code 22 = .ok (.getfield 17, 3) := by decide +kernel
theorem dMo_order_25 : decode prog_9_method_27_code 25 = .ok (.iload_n 2, 1) := by decide +kernel
theorem dMo_order_26 : decode prog_9_method_27_code 26 = .ok (.iaload, 1) := by decide +kernel
theorem dMo_order_27 : decode prog_9_method_27_code 27 = .ok (.isub, 1) := by decide +kernel
theorem dMo_order_28 : decode prog_9_method_27_code 28 = .ok (.ireturn, 1) := by decide +kernel
theorem dMo_order_29 : decode prog_9_method_27_code 29 = .ok (.aload_n 0, 1) := by decide +kernel
theorem dMo_order_30 : decode prog_9_method_27_code 30 = .ok (.getfield 20, 3) := by decide +kernel
theorem dMo_order_33 : decode prog_9_method_27_code 33 = .ok (.iload_n 1, 1) := by decide +kernel
theorem dMo_order_34 : decode prog_9_method_27_code 34 = .ok (.iaload, 1) := by decide +kernel
theorem dMo_order_35 : decode prog_9_method_27_code 35 = .ok (.aload_n 0, 1) := by decide +kernel
theorem dMo_order_36 : decode prog_9_method_27_code 36 = .ok (.getfield 20, 3) := by decide +kernel
theorem dMo_order_39 : decode prog_9_method_27_code 39 = .ok (.iload_n 2, 1) := by decide +kernel
theorem dMo_order_40 : decode prog_9_method_27_code 40 = .ok (.iaload, 1) := by decide +kernel
theorem dMo_order_41 : decode prog_9_method_27_code 41 = .ok (.invokestatic 89, 3) := by decide +kernel
theorem dMo_order_44 : decode prog_9_method_27_code 44 = .ok (.istore_n 3, 1) := by decide +kernel
theorem dMo_order_45 : decode prog_9_method_27_code 45 = .ok (.aload_n 0, 1) := by decide +kernel
theorem dMo_order_46 : decode prog_9_method_27_code 46 = .ok (.iconst 0, 1) := by decide +kernel
theorem dMo_order_47 : decode prog_9_method_27_code 47 = .ok (.iload_n 1, 1) := by decide +kernel
theorem dMo_order_48 : decode prog_9_method_27_code 48 = .ok (.iload_n 3, 1) := by decide +kernel
theorem dMo_order_49 : decode prog_9_method_27_code 49 = .ok (.aload_n 0, 1) := by decide +kernel
theorem dMo_order_50 : decode prog_9_method_27_code 50 = .ok (.getfield 20, 3) := by decide +kernel
theorem dMo_order_53 : decode prog_9_method_27_code 53 = .ok (.iload_n 1, 1) := by decide +kernel
theorem dMo_order_54 : decode prog_9_method_27_code 54 = .ok (.iaload, 1) := by decide +kernel
theorem dMo_order_55 : decode prog_9_method_27_code 55 = .ok (.isub, 1) := by decide +kernel
theorem dMo_order_56 : decode prog_9_method_27_code 56 = .ok (.invokevirtual 92, 3) := by decide +kernel
theorem dMo_order_59 : decode prog_9_method_27_code 59 = .ok (.aload_n 0, 1) := by decide +kernel
theorem dMo_order_60 : decode prog_9_method_27_code 60 = .ok (.iconst 1, 1) := by decide +kernel
theorem dMo_order_61 : decode prog_9_method_27_code 61 = .ok (.iload_n 2, 1) := by decide +kernel
theorem dMo_order_62 : decode prog_9_method_27_code 62 = .ok (.iload_n 3, 1) := by decide +kernel
theorem dMo_order_63 : decode prog_9_method_27_code 63 = .ok (.aload_n 0, 1) := by decide +kernel
theorem dMo_order_64 : decode prog_9_method_27_code 64 = .ok (.getfield 20, 3) := by decide +kernel
theorem dMo_order_67 : decode prog_9_method_27_code 67 = .ok (.iload_n 2, 1) := by decide +kernel
theorem dMo_order_68 : decode prog_9_method_27_code 68 = .ok (.iaload, 1) := by decide +kernel
theorem dMo_order_69 : decode prog_9_method_27_code 69 = .ok (.isub, 1) := by decide +kernel
theorem dMo_order_70 : decode prog_9_method_27_code 70 = .ok (.invokevirtual 92, 3) := by decide +kernel
theorem dMo_order_73 : decode prog_9_method_27_code 73 = .ok (.aload_n 0, 1) := by decide +kernel
theorem dMo_order_74 : decode prog_9_method_27_code 74 = .ok (.getfield 17, 3) := by decide +kernel
theorem dMo_order_77 : decode prog_9_method_27_code 77 = .ok (.iload_n 1, 1) := by decide +kernel
theorem dMo_order_78 : decode prog_9_method_27_code 78 = .ok (.iaload, 1) := by decide +kernel
theorem dMo_order_79 : decode prog_9_method_27_code 79 = .ok (.aload_n 0, 1) := by decide +kernel
theorem dMo_order_80 : decode prog_9_method_27_code 80 = .ok (.iconst 0, 1) := by decide +kernel
theorem dMo_order_81 : decode prog_9_method_27_code 81 = .ok (.iconst 1, 1) := by decide +kernel
theorem dMo_order_82 : decode prog_9_method_27_code 82 = .ok (.invokevirtual 62, 3) := by decide +kernel
theorem dMo_order_85 : decode prog_9_method_27_code 85 = .ok (.imul, 1) := by decide +kernel
theorem dMo_order_86 : decode prog_9_method_27_code 86 = .ok (.ireturn, 1) := by decide +kernel
abbrev qMo_order (dC : Nat → ClassId) (dI : Nat → Nat → Nat) (dA : Nat → ClassId) (mo : Nat) (ft : Int) (lf : Int) (hg : Int) (kk : Int) (tx : Int) (pn : Int) (tk : Int) (fm : Int) (tO : Int) (tl : Int) (mI : Int → Int) (mT : Int → Int) (mS : Int → Int) (mC : Int → Int) (mL : Int → Int) (mB : Int → Int) (mF : Int → Int) (mU : Int → Int) (mX : Int → Int) (mP : Int → Int) (mK : Int → Int) (mD : Int → Int) (mZ : Int → Int) (x : Int) (y : Int) (xa : Th) (yb : Th) (A : Nat → Prop) : Array Value → State → Outcome → State → Prop := QI (dC, dI) vwCl (tyA dA) (fun (r : Int) (v_ : (Int → Int) × (Int → Int)) => ((xa.v * PW 10 (max xa.sc yb.sc - xa.sc) < yb.v * PW 10 (max xa.sc yb.sc - yb.sc) ∧ r < 0) ∨ (xa.v * PW 10 (max xa.sc yb.sc - xa.sc) = yb.v * PW 10 (max xa.sc yb.sc - yb.sc) ∧ r = 0) ∨ (yb.v * PW 10 (max xa.sc yb.sc - yb.sc) < xa.v * PW 10 (max xa.sc yb.sc - xa.sc) ∧ 0 < r)) ∧ -400 ≤ r ∧ r ≤ 400) (fun (v_ : (Int → Int) × (Int → Int)) => wMo dA mo ft lf hg kk tx pn tk fm tO tl mI mT mS mC mL mB mF mU mX mP mK v_.1 v_.2 []) A
abbrev rmMo_order : Room := { frames := 2, cells := 0, slots := 0, locals := 45 }
set_option maxRecDepth 100000 in
set_option maxHeartbeats 1000000 in
theorem cMo_order (l : Launch) (dC : Nat → ClassId) (dI : Nat → Nat → Nat) (dA : Nat → ClassId) (mo : Nat) (ft : Int) (lf : Int) (hg : Int) (kk : Int) (tx : Int) (pn : Int) (tk : Int) (fm : Int) (tO : Int) (tl : Int) (mI : Int → Int) (mT : Int → Int) (mS : Int → Int) (mC : Int → Int) (mL : Int → Int) (mB : Int → Int) (mF : Int → Int) (mU : Int → Int) (mX : Int → Int) (mP : Int → Int) (mK : Int → Int) (mD : Int → Int) (mZ : Int → Int) (x : Int) (y : Int) (xa : Th) (yb : Th) (hxy : 0 ≤ x ∧ x ≤ 46 ∧ 0 ≤ y ∧ y ≤ 46) (hTa : MT mT mS mC mL mB x xa) (hta : xa.t = 0) (hTb : MT mT mS mC mL mB y yb) (htb : yb.t = 0) (sz : Nat) : Met l yMo_order wsMo_order rmMo_order (PC (dC, dI) vwCl (tyA dA) XN [.ref mo, .int (iI x), .int (iI y)] (wMo dA mo ft lf hg kk tx pn tk fm tO tl mI mT mS mC mL mB mF mU mX mP mK mD mZ []) sz) (qMo_order dC dI dA mo ft lf hg kk tx pn tk fm tO tl mI mT mS mC mL mB mF mU mX mP mK mD mZ x y xa yb (va_A (wMo dA mo ft lf hg kk tx pn tk fm tO tl mI mT mS mC mL mB mF mU mX mP mK mD mZ []) sz)) 0 0 (va_A (wMo dA mo ft lf hg kk tx pn tk fm tO tl mI mT mS mC mL mB mF mU mX mP mK mD mZ []) sz) := by
  refine met_of (cc := prog_9_method_27_code) (maxL := 4) (ret := (some .int)) (Qc := qMo_order dC dI dA mo ft lf hg kk tx pn tk fm tO tl mI mT mS mC mL mB mF mU mX mP mK mD mZ x y xa yb) XN_ok (by decide) rfl (Nat.le_of_ble_eq_true rfl) ?_
  intro p e s m below meth c ls A hx hb hr hml hown hts hlocks hnm hK hP hD hA hX hS hl
  have hl : lv_has ls 4 [(0, .ref mo), (1, .int (iI x)), (2, .int (iI y))] := hl
  have hown : s.vm.findClass "MacroReckonerModel" = some m.cls := hown
  obtain ⟨H, hH⟩ : ∃ H : Heap, H = s.heap := ⟨_, rfl⟩
  obtain ⟨locs, hlo⟩ : ∃ L : List Loc, L = [] := ⟨_, rfl⟩
  have hP : va_P (dC, dI) vwCl (wMo dA mo ft lf hg kk tx pn tk fm tO tl mI mT mS mC mL mB mF mU mX mP mK mD mZ []) H := hH ▸ hP
  have hS : va_S A s.heap H locs := by rw [hH, hlo]; exact hS
  suffices hgo : W p l e rmMo_order s m [.ref mo, .int (iI x), .int (iI y)].toArray below meth c H locs 0 0 (MQ below (qMo_order dC dI dA mo ft lf hg kk tx pn tk fm tO tl mI mT mS mC mL mB mF mU mX mP mK mD mZ x y xa yb A) [.ref mo, .int (iI x), .int (iI y)].toArray s 0 0 A) (F0 m 0 ls []) by rw [hH, hlo] at hgo; exact hgo
  clear hH hlo
  obtain ⟨hCx, hscx, hTx, hSx⟩ := MT_n hTa hta
  have hbx := TD_bd hTx
  have hlx := (MT_b hTa).2.2.2.2
  obtain ⟨hCy, hscy, hTy, hSy⟩ := MT_n hTb htb
  have hby := TD_bd hTy
  have hly := (MT_b hTb).2.2.2.2
  have hPp := PW_pos (b := 10) (by decide) (max xa.sc yb.sc - xa.sc)
  have hQp := PW_pos (b := 10) (by decide) (max xa.sc yb.sc - yb.sc)
  refine lv_aload_n hx hb dMo_order_0 rfl (lv_at hl 0 rfl) ?_
  refine va_get (D := (dC, dI)) (ci := 7) (v := .ref (mo + 3)) (C := "MacroReckonerModel") (T := TMo) (N := 23) hx hb hts inMo hown hK hP 0 rfl rfl 4 (by decide) (hts _ wt4_62) (fun _ h9 => h9) rfl dMo_order_1 ?_
  refine lv_iload_n hx hb dMo_order_4 rfl (lv_at hl 1 rfl) ?_
  refine iv_iald hx hb hK hP 3 0 rfl rfl (by decide) dMo_order_5 (by omega) (by omega) ?_
  refine lv_aload_n hx hb dMo_order_6 rfl (lv_at hl 0 rfl) ?_
  refine va_get (D := (dC, dI)) (ci := 7) (v := .ref (mo + 3)) (C := "MacroReckonerModel") (T := TMo) (N := 23) hx hb hts inMo hown hK hP 0 rfl rfl 4 (by decide) (hts _ wt4_62) (fun _ h9 => h9) rfl dMo_order_7 ?_
  refine lv_iload_n hx hb dMo_order_10 rfl (lv_at hl 2 rfl) ?_
  refine iv_iald hx hb hK hP 3 0 rfl rfl (by decide) dMo_order_11 (by omega) (by omega) ?_
  refine iv_icmp_eq (tgt := 29) hx hb dMo_order_12 (by decide) ⟨by omega, by omega⟩ ⟨by omega, by omega⟩ (fun hc12 => ?_) (fun hc12 => ?_)
  · refine lv_aload_n hx hb dMo_order_29 rfl (lv_at hl 0 rfl) ?_
    refine va_get (D := (dC, dI)) (ci := 7) (v := .ref (mo + 4)) (C := "MacroReckonerModel") (T := TMo) (N := 23) hx hb hts inMo hown hK hP 0 rfl rfl 5 (by decide) (hts _ wt4_63) (fun _ h9 => h9) rfl dMo_order_30 ?_
    refine lv_iload_n hx hb dMo_order_33 rfl (lv_at hl 1 rfl) ?_
    refine iv_iald hx hb hK hP 4 0 rfl rfl (by decide) dMo_order_34 (by omega) (by omega) ?_
    refine lv_aload_n hx hb dMo_order_35 rfl (lv_at hl 0 rfl) ?_
    refine va_get (D := (dC, dI)) (ci := 7) (v := .ref (mo + 4)) (C := "MacroReckonerModel") (T := TMo) (N := 23) hx hb hts inMo hown hK hP 0 rfl rfl 5 (by decide) (hts _ wt4_63) (fun _ h9 => h9) rfl dMo_order_36 ?_
    refine lv_iload_n hx hb dMo_order_39 rfl (lv_at hl 2 rfl) ?_
    refine iv_iald hx hb hK hP 4 0 rfl rfl (by decide) dMo_order_40 (by omega) (by omega) ?_
    refine cv_i (va_runS (As := [.int (iI (mC x)), .int (iI (mC y))]) (rest := []) ⟨hx, hb, hml, hown, hts⟩ (cMo_greater l dC dI dA (mC x) (mC y) (by omega) H.size) (cwS 2 hts (gdS wt4_223 wt4_224 wt1_8 wt4_225) rfl rfl rfl ⟨rfl, by decide, by decide, by decide +kernel⟩ ⟨by decide, by decide⟩) (preS hK hP hD hS hA XN_ok trivial [] rfl rfl) rfl rfl hl.1 rfl (lv_room (Nat.le_of_ble_eq_true rfl)) dMo_order_41 ⟨Nat.zero_le _, Nat.zero_le _⟩) hP hD hS hA [] [0, 1, 2, 3, 4, 5, 6, 7, 8, 9, 10, 11, 12, 13] rfl (fun v_ => wMo dA mo ft lf hg kk tx pn tk fm tO tl mI mT mS mC mL mB mF mU mX mP mK mD mZ []) (fun _ => rfl) (wMo dA mo ft lf hg kk tx pn tk fm tO tl mI mT mS mC mL mB mF mU mX mP mK mD mZ []) rfl (fun _ => rfl) [mo, mo + 1, mo + 2, mo + 3, mo + 4, mo + 5, mo + 6, mo + 7, mo + 8, mo + 9, mo + 10, mo + 11, mo + 12, mo + 13] rfl (fun _ => rfl) (fun _ => rfl) (fun t9 u_ H locs hq41 hP hD hS => ?_)
    have hP : va_P (dC, dI) vwCl (wMo dA mo ft lf hg kk tx pn tk fm tO tl mI mT mS mC mL mB mF mU mX mP mK mD mZ []) H := hP
    have hD : va_D A (wMo dA mo ft lf hg kk tx pn tk fm tO tl mI mT mS mC mL mB mF mU mX mP mK mD mZ []) := hD
    have hq41 : t9 = max (mC x) (mC y) := hq41
    rw [hCx, hCy] at hq41
    refine lv_istore_n (lv' := [(3, .int (iI t9)), (0, .ref mo), (1, .int (iI x)), (2, .int (iI y))]) hx hb dMo_order_44 rfl hl (by decide) rfl (fun ls hl => ?_)
    refine lv_aload_n hx hb dMo_order_45 rfl (lv_at hl 1 rfl) ?_
    refine lv_iconst (v := iI 0) hx hb dMo_order_46 rfl ?_
    refine lv_iload_n hx hb dMo_order_47 rfl (lv_at hl 2 rfl) ?_
    refine lv_iload_n hx hb dMo_order_48 rfl (lv_at hl 0 rfl) ?_
    refine lv_aload_n hx hb dMo_order_49 rfl (lv_at hl 1 rfl) ?_
    refine va_get (D := (dC, dI)) (ci := 7) (v := .ref (mo + 4)) (C := "MacroReckonerModel") (T := TMo) (N := 23) hx hb hts inMo hown hK hP 0 rfl rfl 5 (by decide) (hts _ wt4_63) (fun _ h9 => h9) rfl dMo_order_50 ?_
    refine lv_iload_n hx hb dMo_order_53 rfl (lv_at hl 2 rfl) ?_
    refine iv_iald hx hb hK hP 4 0 rfl rfl (by decide) dMo_order_54 (by omega) (by omega) ?_
    refine iv_isub hx hb dMo_order_55 ?_
    refine cv_v (va_runV (C := "MacroReckonerModel") (As := [.int (iI 0), .int (iI x), .int (iI (t9 - (mC x)))]) (rest := []) ⟨hx, hb, hml, hown, hts⟩ (cMo_load l dC dI dA mo ft lf hg kk tx pn tk fm tO tl mI mT mS mC mL mB mF mU mX mP mK mD mZ 0 x (t9 - (mC x)) (ab xa.v) (by omega) (by omega) (by exact hTx) H.size) (cwV 3 hts (gdV wt4_226 wt4_228 ws4_10 wt1_8 wt4_229) rfl rfl rfl ⟨rfl, by decide, by decide, by decide +kernel⟩ ⟨by decide, by decide⟩) (preV (q := ("MacroReckonerModel", TMo, 23)) hK hP hD hS hA XN_ok trivial [0, 1, 2, 3, 4, 5, 6, 7, 8, 9, 10, 11, 12, 13] rfl rfl 0 rfl rfl) rfl rfl hl.1 rfl (lv_room (Nat.le_of_ble_eq_true rfl)) dMo_order_56 ⟨Nat.zero_le _, Nat.zero_le _⟩) hP hD hS hA [0, 1, 2, 3, 4, 5, 6, 7, 8, 9, 10, 11, 12, 13] [] rfl (fun v_ => wMo dA mo ft lf hg kk tx pn tk fm tO tl mI mT mS mC mL mB mF mU mX mP mK v_.1 v_.2 []) (fun _ => rfl) ([] : va_W) rfl (fun _ => rfl) [mo, mo + 1, mo + 2, mo + 3, mo + 4, mo + 5, mo + 6, mo + 7, mo + 8, mo + 9, mo + 10, mo + 11, mo + 12, mo + 13] rfl (fun _ => rfl) (fun _ => rfl) (fun u_ H locs hq56 hP hD hS => ?_)
    obtain ⟨D1_56, Z1_56⟩ := u_
    have hP : va_P (dC, dI) vwCl (wMo dA mo ft lf hg kk tx pn tk fm tO tl mI mT mS mC mL mB mF mU mX mP mK D1_56 Z1_56 []) H := hP
    have hD : va_D A (wMo dA mo ft lf hg kk tx pn tk fm tO tl mI mT mS mC mL mB mF mU mX mP mK D1_56 Z1_56 []) := hD
    have hq56 : MR D1_56 Z1_56 0 ((ab xa.v) * PW 10 (t9 - (mC x))) ∧ others mD mZ D1_56 Z1_56 0 := hq56
    rw [hCx, hq41] at hq56
    refine lv_aload_n hx hb dMo_order_59 rfl (lv_at hl 1 rfl) ?_
    refine lv_iconst (v := iI 1) hx hb dMo_order_60 rfl ?_
    refine lv_iload_n hx hb dMo_order_61 rfl (lv_at hl 3 rfl) ?_
    refine lv_iload_n hx hb dMo_order_62 rfl (lv_at hl 0 rfl) ?_
    refine lv_aload_n hx hb dMo_order_63 rfl (lv_at hl 1 rfl) ?_
    refine va_get (D := (dC, dI)) (ci := 7) (v := .ref (mo + 4)) (C := "MacroReckonerModel") (T := TMo) (N := 23) hx hb hts inMo hown hK hP 0 rfl rfl 5 (by decide) (hts _ wt4_63) (fun _ h9 => h9) rfl dMo_order_64 ?_
    refine lv_iload_n hx hb dMo_order_67 rfl (lv_at hl 3 rfl) ?_
    refine iv_iald hx hb hK hP 4 0 rfl rfl (by decide) dMo_order_68 (by omega) (by omega) ?_
    refine iv_isub hx hb dMo_order_69 ?_
    refine cv_v (va_runV (C := "MacroReckonerModel") (As := [.int (iI 1), .int (iI y), .int (iI (t9 - (mC y)))]) (rest := []) ⟨hx, hb, hml, hown, hts⟩ (cMo_load l dC dI dA mo ft lf hg kk tx pn tk fm tO tl mI mT mS mC mL mB mF mU mX mP mK D1_56 Z1_56 1 y (t9 - (mC y)) (ab yb.v) (by omega) (by omega) (by exact hTy) H.size) (cwV 3 hts (gdV wt4_226 wt4_228 ws4_10 wt1_8 wt4_229) rfl rfl rfl ⟨rfl, by decide, by decide, by decide +kernel⟩ ⟨by decide, by decide⟩) (preV (q := ("MacroReckonerModel", TMo, 23)) hK hP hD hS hA XN_ok trivial [0, 1, 2, 3, 4, 5, 6, 7, 8, 9, 10, 11, 12, 13] rfl rfl 0 rfl rfl) rfl rfl hl.1 rfl (lv_room (Nat.le_of_ble_eq_true rfl)) dMo_order_70 ⟨Nat.zero_le _, Nat.zero_le _⟩) hP hD hS hA [0, 1, 2, 3, 4, 5, 6, 7, 8, 9, 10, 11, 12, 13] [] rfl (fun v_ => wMo dA mo ft lf hg kk tx pn tk fm tO tl mI mT mS mC mL mB mF mU mX mP mK v_.1 v_.2 []) (fun _ => rfl) ([] : va_W) rfl (fun _ => rfl) [mo, mo + 1, mo + 2, mo + 3, mo + 4, mo + 5, mo + 6, mo + 7, mo + 8, mo + 9, mo + 10, mo + 11, mo + 12, mo + 13] rfl (fun _ => rfl) (fun _ => rfl) (fun u_ H locs hq70 hP hD hS => ?_)
    obtain ⟨D1_70, Z1_70⟩ := u_
    have hP : va_P (dC, dI) vwCl (wMo dA mo ft lf hg kk tx pn tk fm tO tl mI mT mS mC mL mB mF mU mX mP mK D1_70 Z1_70 []) H := hP
    have hD : va_D A (wMo dA mo ft lf hg kk tx pn tk fm tO tl mI mT mS mC mL mB mF mU mX mP mK D1_70 Z1_70 []) := hD
    have hq70 : MR D1_70 Z1_70 1 ((ab yb.v) * PW 10 (t9 - (mC y))) ∧ others D1_56 Z1_56 D1_70 Z1_70 1 := hq70
    rw [hCy, hq41] at hq70
    have h0 := MR_o hq70.2 (by decide) hq56.1
    refine lv_aload_n hx hb dMo_order_73 rfl (lv_at hl 1 rfl) ?_
    refine va_get (D := (dC, dI)) (ci := 7) (v := .ref (mo + 3)) (C := "MacroReckonerModel") (T := TMo) (N := 23) hx hb hts inMo hown hK hP 0 rfl rfl 4 (by decide) (hts _ wt4_62) (fun _ h9 => h9) rfl dMo_order_74 ?_
    refine lv_iload_n hx hb dMo_order_77 rfl (lv_at hl 2 rfl) ?_
    refine iv_iald hx hb hK hP 3 0 rfl rfl (by decide) dMo_order_78 (by omega) (by omega) ?_
    refine lv_aload_n hx hb dMo_order_79 rfl (lv_at hl 1 rfl) ?_
    refine lv_iconst (v := iI 0) hx hb dMo_order_80 rfl ?_
    refine lv_iconst (v := iI 1) hx hb dMo_order_81 rfl ?_
    refine cv_i (va_runV (C := "MacroReckonerModel") (As := [.int (iI 0), .int (iI 1)]) (rest := [.int (iI (mS x))]) ⟨hx, hb, hml, hown, hts⟩ (cMo_compare l dC dI dA mo ft lf hg kk tx pn tk fm tO tl mI mT mS mC mL mB mF mU mX mP mK D1_70 Z1_70 0 1 (ab xa.v * PW 10 (max xa.sc yb.sc - xa.sc)) (ab yb.v * PW 10 (max xa.sc yb.sc - yb.sc)) (by omega) (by exact h0) (by exact hq70.1) H.size) (cwV 2 hts (gdV wt4_230 wt4_232 ws4_11 wt1_8 wt4_233) rfl rfl rfl ⟨rfl, by decide, by decide, by decide +kernel⟩ ⟨by decide, by decide⟩) (preV (q := ("MacroReckonerModel", TMo, 23)) hK hP hD hS hA XN_ok trivial [0, 1, 2, 3, 4, 5, 6, 7, 8, 9, 10, 11, 12, 13] rfl rfl 0 rfl rfl) rfl rfl hl.1 rfl (lv_room (Nat.le_of_ble_eq_true rfl)) dMo_order_82 ⟨Nat.zero_le _, Nat.zero_le _⟩) hP hD hS hA [0, 1, 2, 3, 4, 5, 6, 7, 8, 9, 10, 11, 12, 13] [] rfl (fun v_ => wMo dA mo ft lf hg kk tx pn tk fm tO tl mI mT mS mC mL mB mF mU mX mP mK D1_70 Z1_70 []) (fun _ => rfl) ([] : va_W) rfl (fun _ => rfl) [mo, mo + 1, mo + 2, mo + 3, mo + 4, mo + 5, mo + 6, mo + 7, mo + 8, mo + 9, mo + 10, mo + 11, mo + 12, mo + 13] rfl (fun _ => rfl) (fun _ => rfl) (fun r82 u_ H locs hq82 hP hD hS => ?_)
    have hP : va_P (dC, dI) vwCl (wMo dA mo ft lf hg kk tx pn tk fm tO tl mI mT mS mC mL mB mF mU mX mP mK D1_70 Z1_70 []) H := hP
    have hD : va_D A (wMo dA mo ft lf hg kk tx pn tk fm tO tl mI mT mS mC mL mB mF mU mX mP mK D1_70 Z1_70 []) := hD
    have hq82 : (((ab xa.v * PW 10 (max xa.sc yb.sc - xa.sc)) < (ab yb.v * PW 10 (max xa.sc yb.sc - yb.sc)) ∧ r82 < 0) ∨ ((ab xa.v * PW 10 (max xa.sc yb.sc - xa.sc)) = (ab yb.v * PW 10 (max xa.sc yb.sc - yb.sc)) ∧ r82 = 0) ∨ ((ab yb.v * PW 10 (max xa.sc yb.sc - yb.sc)) < (ab xa.v * PW 10 (max xa.sc yb.sc - xa.sc)) ∧ 0 < r82)) ∧ -400 ≤ r82 ∧ r82 ≤ 400 := hq82
    refine iv_imul hx hb dMo_order_85 ?_
    exact rt_i hx hb hr hlocks hK hS dMo_order_86 (D1_70, Z1_70) hP hD (show ((xa.v * PW 10 (max xa.sc yb.sc - xa.sc) < yb.v * PW 10 (max xa.sc yb.sc - yb.sc) ∧ ((mS x) * r82) < 0) ∨ (xa.v * PW 10 (max xa.sc yb.sc - xa.sc) = yb.v * PW 10 (max xa.sc yb.sc - yb.sc) ∧ ((mS x) * r82) = 0) ∨ (yb.v * PW 10 (max xa.sc yb.sc - yb.sc) < xa.v * PW 10 (max xa.sc yb.sc - xa.sc) ∧ 0 < ((mS x) * r82))) ∧ -400 ≤ ((mS x) * r82) ∧ ((mS x) * r82) ≤ 400 from by exact or_2 hSx (hc12 ▸ hSy) hq82)
  · refine lv_aload_n hx hb dMo_order_15 rfl (lv_at hl 0 rfl) ?_
    refine va_get (D := (dC, dI)) (ci := 7) (v := .ref (mo + 3)) (C := "MacroReckonerModel") (T := TMo) (N := 23) hx hb hts inMo hown hK hP 0 rfl rfl 4 (by decide) (hts _ wt4_62) (fun _ h9 => h9) rfl dMo_order_16 ?_
    refine lv_iload_n hx hb dMo_order_19 rfl (lv_at hl 1 rfl) ?_
    refine iv_iald hx hb hK hP 3 0 rfl rfl (by decide) dMo_order_20 (by omega) (by omega) ?_
    refine lv_aload_n hx hb dMo_order_21 rfl (lv_at hl 0 rfl) ?_
    refine va_get (D := (dC, dI)) (ci := 7) (v := .ref (mo + 3)) (C := "MacroReckonerModel") (T := TMo) (N := 23) hx hb hts inMo hown hK hP 0 rfl rfl 4 (by decide) (hts _ wt4_62) (fun _ h9 => h9) rfl dMo_order_22 ?_
    refine lv_iload_n hx hb dMo_order_25 rfl (lv_at hl 2 rfl) ?_
    refine iv_iald hx hb hK hP 3 0 rfl rfl (by decide) dMo_order_26 (by omega) (by omega) ?_
    refine iv_isub hx hb dMo_order_27 ?_
    exact rt_i hx hb hr hlocks hK hS dMo_order_28 (mD, mZ) hP hD (show ((xa.v * PW 10 (max xa.sc yb.sc - xa.sc) < yb.v * PW 10 (max xa.sc yb.sc - yb.sc) ∧ ((mS x) - (mS y)) < 0) ∨ (xa.v * PW 10 (max xa.sc yb.sc - xa.sc) = yb.v * PW 10 (max xa.sc yb.sc - yb.sc) ∧ ((mS x) - (mS y)) = 0) ∨ (yb.v * PW 10 (max xa.sc yb.sc - yb.sc) < xa.v * PW 10 (max xa.sc yb.sc - xa.sc) ∧ 0 < ((mS x) - (mS y)))) ∧ -400 ≤ ((mS x) - (mS y)) ∧ ((mS x) - (mS y)) ≤ 400 from by refine ⟨?_, by omega⟩; rcases (show mS x < mS y ∨ mS y < mS x by omega) with q | q; exact Or.inl ⟨or_1 hSx hSy hPp hQp q, by omega⟩; exact Or.inr (Or.inr ⟨or_1 hSy hSx hQp hPp q, by omega⟩))
