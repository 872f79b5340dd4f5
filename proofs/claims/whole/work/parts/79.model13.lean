theorem dMo_endTexts_0 : decode prog_9_method_38_code 0 = .ok (.aload_n 0, 1) := by decide +kernel
theorem dMo_endTexts_1 : decode prog_9_method_38_code 1 = .ok (.getfield 120, 3) := by decide +kernel
theorem dMo_endTexts_4 : decode prog_9_method_38_code 4 = .ok (.ifCond .le 7, 3) := by decide +kernel
theorem dMo_endTexts_7 : decode prog_9_method_38_code 7 = .ok (.iconst 1, 1) := by decide +kernel
theorem dMo_endTexts_8 : decode prog_9_method_38_code 8 = .ok (.goto 4, 3) := by decide +kernel
theorem dMo_endTexts_11 : decode prog_9_method_38_code 11 = .ok (.iconst 0, 1) := by decide +kernel
theorem dMo_endTexts_12 : decode prog_9_method_38_code 12 = .ok (.istore_n 1, 1) := by decide +kernel
theorem dMo_endTexts_13 : decode prog_9_method_38_code 13 = .ok (.iload_n 1, 1) := by decide +kernel
theorem dMo_endTexts_14 : decode prog_9_method_38_code 14 = .ok (.ifCond .eq 108, 3) := by decide +kernel
theorem dMo_endTexts_17 : decode prog_9_method_38_code 17 = .ok (.aload_n 0, 1) := by decide +kernel
theorem dMo_endTexts_18 : decode prog_9_method_38_code 18 = .ok (.getfield 29, 3) := by decide +kernel
theorem dMo_endTexts_21 : decode prog_9_method_38_code 21 = .ok (.aload_n 0, 1) := by decide +kernel
theorem dMo_endTexts_22 : decode prog_9_method_38_code 22 = .ok (.getfield 120, 3) := by decide +kernel
theorem dMo_endTexts_25 : decode prog_9_method_38_code 25 = .ok (.iconst 1, 1) := by decide +kernel
theorem dMo_endTexts_26 : decode prog_9_method_38_code 26 = .ok (.isub, 1) := by decide +kernel
theorem dMo_endTexts_27 : decode prog_9_method_38_code 27 = .ok (.iaload, 1) := by decide +kernel
theorem dMo_endTexts_28 : decode prog_9_method_38_code 28 = .ok (.istore_n 2, 1) := by decide +kernel
theorem dMo_endTexts_29 : decode prog_9_method_38_code 29 = .ok (.iload_n 2, 1) := by decide +kernel
theorem dMo_endTexts_30 : decode prog_9_method_38_code 30 = .ok (.aload_n 0, 1) := by decide +kernel
theorem dMo_endTexts_31 : decode prog_9_method_38_code 31 = .ok (.getfield 32, 3) := by decide +kernel
theorem dMo_endTexts_34 : decode prog_9_method_38_code 34 = .ok (.aload_n 0, 1) := by decide +kernel
theorem dMo_endTexts_35 : decode prog_9_method_38_code 35 = .ok (.getfield 120, 3) := by decide +kernel
theorem dMo_endTexts_38 : decode prog_9_method_38_code 38 = .ok (.iconst 1, 1) := by decide +kernel
theorem dMo_endTexts_39 : decode prog_9_method_38_code 39 = .ok (.isub, 1) := by decide +kernel
theorem dMo_endTexts_40 : decode prog_9_method_38_code 40 = .ok (.iaload, 1) := by decide +kernel
theorem dMo_endTexts_41 : decode prog_9_method_38_code 41 = .ok (.if_icmp .ge 40, 3) := by decide +kernel
theorem dMo_endTexts_44 : decode prog_9_method_38_code 44 = .ok (.iload_n 1, 1) := by decide +kernel
theorem dMo_endTexts_45 : decode prog_9_method_38_code 45 = .ok (.ifCond .eq 28, 3) := by decide +kernel
theorem dMo_endTexts_48 : decode prog_9_method_38_code 48 = .ok (.aload_n 0, 1) := by decide +kernel
theorem dMo_endTexts_49 : decode prog_9_method_38_code 49 = .ok (.getfield 35, 3) := by decide +kernel
theorem dMo_endTexts_52 : decode prog_9_method_38_code 52 = .ok (.bipush 60, 2) := by decide +kernel
theorem dMo_endTexts_54 : decode prog_9_method_38_code 54 = .ok (.aload_n 0, 1) := by decide +kernel
theorem dMo_endTexts_55 : decode prog_9_method_38_code 55 = .ok (.getfield 120, 3) := by decide +kernel
theorem dMo_endTexts_58 : decode prog_9_method_38_code 58 = .ok (.iconst 1, 1) := by decide +kernel
theorem dMo_endTexts_59 : decode prog_9_method_38_code 59 = .ok (.isub, 1) := by decide +kernel
theorem dMo_endTexts_60 : decode prog_9_method_38_code 60 = .ok (.imul, 1) := by decide +kernel
theorem dMo_endTexts_61 : decode prog_9_method_38_code 61 = .ok (.iload_n 2, 1) := by decide +kernel
theorem dMo_endTexts_62 : decode prog_9_method_38_code 62 = .ok (.iadd, 1) := by decide +kernel
theorem dMo_endTexts_63 : decode prog_9_method_38_code 63 = .ok (.iaload, 1) := by decide +kernel
theorem dMo_endTexts_64 : decode prog_9_method_38_code 64 = .ok (.bipush 32, 2) := by decide +kernel
theorem dMo_endTexts_66 : decode prog_9_method_38_code 66 = .ok (.if_icmp .ne 7, 3) := by decide +kernel
theorem dMo_endTexts_69 : decode prog_9_method_38_code 69 = .ok (.iconst 1, 1) := by decide +kernel
theorem dMo_endTexts_70 : decode prog_9_method_38_code 70 = .ok (.goto 4, 3) := by decide +kernel
theorem dMo_endTexts_73 : decode prog_9_method_38_code 73 = .ok (.iconst 0, 1) := by decide +kernel
theorem dMo_endTexts_74 : decode prog_9_method_38_code 74 = .ok (.istore_n 1, 1) := by decide +kernel
theorem dMo_endTexts_75 : decode prog_9_method_38_code 75 = .ok (.iinc 2 1, 3) := by decide +kernel
theorem dMo_endTexts_78 : decode prog_9_method_38_code 78 = .ok (.goto (-49), 3) := by decide +kernel
theorem dMo_endTexts_81 : decode prog_9_method_38_code 81 = .ok (.aload_n 0, 1) := by decide +kernel
theorem dMo_endTexts_82 : decode prog_9_method_38_code 82 = .ok (.iload_n 1, 1) := by decide +kernel
theorem dMo_endTexts_83 : decode prog_9_method_38_code 83 = .ok (.ifCond .eq 12, 3) := by decide +kernel
theorem dMo_endTexts_86 : decode prog_9_method_38_code 86 = .ok (.aload_n 0, 1) := by decide +kernel
theorem dMo_endTexts_87 : decode prog_9_method_38_code 87 = .ok (.getfield 120, 3) := by decide +kernel
theorem dMo_endTexts_90 : decode prog_9_method_38_code 90 = .ok (.iconst 1, 1) := by decide +kernel
theorem dMo_endTexts_91 : decode prog_9_method_38_code 91 = .ok (.isub, 1) := by decide +kernel
theorem dMo_endTexts_92 : decode prog_9_method_38_code 92 = .ok (.goto 7, 3) := by decide +kernel
theorem dMo_endTexts_95 : decode prog_9_method_38_code 95 = .ok (.aload_n 0, 1) := by decide +kernel
theorem dMo_endTexts_96 : decode prog_9_method_38_code 96 = .ok (.getfield 120, 3) := by decide +kernel
theorem dMo_endTexts_99 : decode prog_9_method_38_code 99 = .ok (.putfield 120, 3) := by decide +kernel
theorem dMo_endTexts_102 : decode prog_9_method_38_code 102 = .ok (.iload_n 1, 1) := by decide +kernel
theorem dMo_endTexts_103 : decode prog_9_method_38_code 103 = .ok (.ifCond .eq 14, 3) := by decide +kernel
theorem dMo_endTexts_106 : decode prog_9_method_38_code 106 = .ok (.aload_n 0, 1) := by decide +kernel
theorem dMo_endTexts_107 : decode prog_9_method_38_code 107 = .ok (.getfield 120, 3) := by decide +kernel
theorem dMo_endTexts_110 : decode prog_9_method_38_code 110 = .ok (.ifCond .le 7, 3) := by decide +kernel
theorem dMo_endTexts_113 : decode prog_9_method_38_code 113 = .ok (.iconst 1, 1) := by decide +kernel
theorem dMo_endTexts_114 : decode prog_9_method_38_code 114 = .ok (.goto 4, 3) := by decide +kernel
theorem dMo_endTexts_117 : decode prog_9_method_38_code 117 = .ok (.iconst 0, 1) := by decide +kernel
theorem dMo_endTexts_118 : decode prog_9_method_38_code 118 = .ok (.istore_n 1, 1) := by decide +kernel
theorem dMo_endTexts_119 : decode prog_9_method_38_code 119 = .ok (.goto (-106), 3) := by decide +kernel
theorem dMo_endTexts_122 : decode prog_9_method_38_code 122 = .ok (.return_, 1) := by decide +kernel
abbrev qMo_endTexts (dC : Nat → ClassId) (dI : Nat → Nat → Nat) (dA : Nat → ClassId) (mo : Nat) (ft : Int) (lf : Int) (hg : Int) (kk : Int) (tx : Int) (pn : Int) (tk : Int) (fm : Int) (tO : Int) (tl : Int) (mI : Int → Int) (mT : Int → Int) (mS : Int → Int) (mC : Int → Int) (mL : Int → Int) (mB : Int → Int) (mF : Int → Int) (mU : Int → Int) (mX : Int → Int) (mP : Int → Int) (mK : Int → Int) (mD : Int → Int) (mZ : Int → Int) (A : Nat → Prop) : Array Value → State → Outcome → State → Prop := QV (dC, dI) vwCl (tyA dA) (fun (v_ : Int) => enP mF mU mX tx v_) (fun (v_ : Int) => wMo dA mo ft lf hg kk v_ pn tk fm tO tl mI mT mS mC mL mB mF mU mX mP mK mD mZ []) A
abbrev rmMo_endTexts : Room := { frames := 0, cells := 0, slots := 0, locals := 0 }
set_option maxRecDepth 100000 in
set_option maxHeartbeats 1000000 in
theorem cMo_endTexts (l : Launch) (dC : Nat → ClassId) (dI : Nat → Nat → Nat) (dA : Nat → ClassId) (mo : Nat) (ft : Int) (lf : Int) (hg : Int) (kk : Int) (tx : Int) (pn : Int) (tk : Int) (fm : Int) (tO : Int) (tl : Int) (mI : Int → Int) (mT : Int → Int) (mS : Int → Int) (mC : Int → Int) (mL : Int → Int) (mB : Int → Int) (mF : Int → Int) (mU : Int → Int) (mX : Int → Int) (mP : Int → Int) (mK : Int → Int) (mD : Int → Int) (mZ : Int → Int) (hx9 : 0 ≤ tx ∧ tx ≤ 8) (hF9 : ∀ i, 0 ≤ i → i < tx → 0 ≤ mF i ∧ mF i ≤ 60 ∧ mU i ≤ 60 ∧ 0 ≤ mU i) (hcr : ∀ i j, 0 ≤ i → i < tx → mF i ≤ j → j < mU i → 0 ≤ mX (60 * i + j) ∧ mX (60 * i + j) ≤ 126) (hnb : ∀ i, 0 ≤ i → i < tx - 1 → ¬ blnk (sh mX (60 * i)) (mF i) (mU i)) (sz : Nat) : Met l yMo_endTexts wsMo_endTexts rmMo_endTexts (PC (dC, dI) vwCl (tyA dA) XN [.ref mo] (wMo dA mo ft lf hg kk tx pn tk fm tO tl mI mT mS mC mL mB mF mU mX mP mK mD mZ []) sz) (qMo_endTexts dC dI dA mo ft lf hg kk tx pn tk fm tO tl mI mT mS mC mL mB mF mU mX mP mK mD mZ (va_A (wMo dA mo ft lf hg kk tx pn tk fm tO tl mI mT mS mC mL mB mF mU mX mP mK mD mZ []) sz)) 0 0 (va_A (wMo dA mo ft lf hg kk tx pn tk fm tO tl mI mT mS mC mL mB mF mU mX mP mK mD mZ []) sz) := by
  refine met_of (cc := prog_9_method_38_code) (maxL := 3) (ret := none) (Qc := qMo_endTexts dC dI dA mo ft lf hg kk tx pn tk fm tO tl mI mT mS mC mL mB mF mU mX mP mK mD mZ) XN_ok (by decide) rfl (Nat.le_of_ble_eq_true rfl) ?_
  intro p e s m below meth c ls A hx hb hr hml hown hts hlocks hnm hK hP hD hA hX hS hl
  have hl : lv_has ls 3 [(0, .ref mo)] := hl
  have hown : s.vm.findClass "MacroReckonerModel" = some m.cls := hown
  obtain ⟨H, hH⟩ : ∃ H : Heap, H = s.heap := ⟨_, rfl⟩
  obtain ⟨locs, hlo⟩ : ∃ L : List Loc, L = [] := ⟨_, rfl⟩
  have hP : va_P (dC, dI) vwCl (wMo dA mo ft lf hg kk tx pn tk fm tO tl mI mT mS mC mL mB mF mU mX mP mK mD mZ []) H := hH ▸ hP
  have hS : va_S A s.heap H locs := by rw [hH, hlo]; exact hS
  suffices hgo : W p l e rmMo_endTexts s m [.ref mo].toArray below meth c H locs 0 0 (MQ below (qMo_endTexts dC dI dA mo ft lf hg kk tx pn tk fm tO tl mI mT mS mC mL mB mF mU mX mP mK mD mZ A) [.ref mo].toArray s 0 0 A) (F0 m 0 ls []) by rw [hH, hlo] at hgo; exact hgo
  clear hH hlo
  refine lv_aload_n hx hb dMo_endTexts_0 rfl (lv_at hl 0 rfl) ?_
  refine va_get (D := (dC, dI)) (ci := 7) (v := .int (iI tx)) (C := "MacroReckonerModel") (T := TMo) (N := 23) hx hb hts inMo hown hK hP 0 rfl rfl 10 (by decide) (hts _ wt4_68) (fun _ h9 => h9) rfl dMo_endTexts_1 ?_
  have J13 : ∀ (n : Nat) (t9 : Int) (on : Int) (H : Heap) (locs : List Loc) (ls : Array Slot), (enJ mF mU mX tx t9 on) → (2 * t9 + on).toNat < n → va_P (dC, dI) vwCl (wMo dA mo ft lf hg kk t9 pn tk fm tO tl mI mT mS mC mL mB mF mU mX mP mK mD mZ []) H → va_D A (wMo dA mo ft lf hg kk t9 pn tk fm tO tl mI mT mS mC mL mB mF mU mX mP mK mD mZ []) → va_S A s.heap H locs → lv_has ls 3 [(0, .ref mo), (1, .int (iI on))] → W p l e rmMo_endTexts s m [.ref mo].toArray below meth c H locs 0 0 (MQ below (qMo_endTexts dC dI dA mo ft lf hg kk tx pn tk fm tO tl mI mT mS mC mL mB mF mU mX mP mK mD mZ A) [.ref mo].toArray s 0 0 A) (F0 m 13 ls []) := by
    intro n
    induction n with
    | zero => intro t9 on H locs ls hJ hn; omega
    | succ n ih =>
      intro t9 on H locs ls hJ hn hP hD hS hl
      have hjb := en_b hJ hx9.1
      have ih13 := ih
      refine lv_iload_n hx hb dMo_endTexts_13 rfl (lv_at hl 1 rfl) ?_
      refine iv_if_eq (tgt := 122) hx hb dMo_endTexts_14 (by decide) ⟨by omega, by omega⟩ (fun hc14 => ?_) (fun hc14 => ?_)
      · exact rt_v hx hb hr hlocks hK hS dMo_endTexts_122 (t9) hP hD (show enP mF mU mX tx t9 from by exact en_e (show enJ mF mU mX tx t9 0 from (show on = 0 by omega) ▸ hJ))
      · have hon : on = 1 := by omega
        have h91 := hon ▸ hJ
        have hfb := hF9 (t9 - 1) (by omega) (by omega)
        refine lv_aload_n hx hb dMo_endTexts_17 rfl (lv_at hl 0 rfl) ?_
        refine va_get (D := (dC, dI)) (ci := 7) (v := .ref (mo + 7)) (C := "MacroReckonerModel") (T := TMo) (N := 23) hx hb hts inMo hown hK hP 0 rfl rfl 11 (by decide) (hts _ wt4_69) (fun _ h9 => h9) rfl dMo_endTexts_18 ?_
        refine lv_aload_n hx hb dMo_endTexts_21 rfl (lv_at hl 0 rfl) ?_
        refine va_get (D := (dC, dI)) (ci := 7) (v := .int (iI t9)) (C := "MacroReckonerModel") (T := TMo) (N := 23) hx hb hts inMo hown hK hP 0 rfl rfl 10 (by decide) (hts _ wt4_68) (fun _ h9 => h9) rfl dMo_endTexts_22 ?_
        refine lv_iconst (v := iI 1) hx hb dMo_endTexts_25 rfl ?_
        refine iv_isub hx hb dMo_endTexts_26 ?_
        refine iv_iald hx hb hK hP 7 0 rfl rfl (by decide) dMo_endTexts_27 (by omega) (by omega) ?_
        refine lv_istore_n (lv' := [(2, .int (iI (mF (t9 - 1)))), (0, .ref mo), (1, .int (iI on))]) hx hb dMo_endTexts_28 rfl hl (by decide) rfl (fun ls hl => ?_)
        have L29 : ∀ (n : Nat) (p9 : Int) (o8 : Int) (H : Heap) (locs : List Loc) (ls : Array Slot), (mF (t9 - 1) ≤ p9 ∧ (p9 ≤ mU (t9 - 1) ∨ p9 = mF (t9 - 1))) → (spJ mX (60 * (t9 - 1)) (mF (t9 - 1)) p9 o8) → (mU (t9 - 1) - p9).toNat < n → va_P (dC, dI) vwCl (wMo dA mo ft lf hg kk t9 pn tk fm tO tl mI mT mS mC mL mB mF mU mX mP mK mD mZ []) H → va_D A (wMo dA mo ft lf hg kk t9 pn tk fm tO tl mI mT mS mC mL mB mF mU mX mP mK mD mZ []) → va_S A s.heap H locs → lv_has ls 3 [(2, .int (iI p9)), (0, .ref mo), (1, .int (iI o8))] → W p l e rmMo_endTexts s m [.ref mo].toArray below meth c H locs 0 0 (MQ below (qMo_endTexts dC dI dA mo ft lf hg kk tx pn tk fm tO tl mI mT mS mC mL mB mF mU mX mP mK mD mZ A) [.ref mo].toArray s 0 0 A) (F0 m 29 ls []) := by
          intro n
          induction n with
          | zero => intro p9 o8 H locs ls hp hO hn; omega
          | succ n ih =>
            intro p9 o8 H locs ls hp hO hn hP hD hS hl
            have ho8 := sp_b hO
            have ih29 := ih
            refine lv_iload_n hx hb dMo_endTexts_29 rfl (lv_at hl 0 rfl) ?_
            refine lv_aload_n hx hb dMo_endTexts_30 rfl (lv_at hl 1 rfl) ?_
            refine va_get (D := (dC, dI)) (ci := 7) (v := .ref (mo + 8)) (C := "MacroReckonerModel") (T := TMo) (N := 23) hx hb hts inMo hown hK hP 0 rfl rfl 12 (by decide) (hts _ wt4_70) (fun _ h9 => h9) rfl dMo_endTexts_31 ?_
            refine lv_aload_n hx hb dMo_endTexts_34 rfl (lv_at hl 1 rfl) ?_
            refine va_get (D := (dC, dI)) (ci := 7) (v := .int (iI t9)) (C := "MacroReckonerModel") (T := TMo) (N := 23) hx hb hts inMo hown hK hP 0 rfl rfl 10 (by decide) (hts _ wt4_68) (fun _ h9 => h9) rfl dMo_endTexts_35 ?_
            refine lv_iconst (v := iI 1) hx hb dMo_endTexts_38 rfl ?_
            refine iv_isub hx hb dMo_endTexts_39 ?_
            refine iv_iald hx hb hK hP 8 0 rfl rfl (by decide) dMo_endTexts_40 (by omega) (by omega) ?_
            refine iv_icmp_ge (tgt := 81) hx hb dMo_endTexts_41 (by decide) ⟨by omega, by omega⟩ ⟨by omega, by omega⟩ (fun hc41 => ?_) (fun hc41 => ?_)
            · have hbl : (o8 = 1 ∧ blnk (sh mX (60 * (t9 - 1))) (mF (t9 - 1)) (mU (t9 - 1))) ∨ (o8 = 0 ∧ ¬ blnk (sh mX (60 * (t9 - 1))) (mF (t9 - 1)) (mU (t9 - 1))) := spx_e hO (by omega) (by omega)
              refine lv_aload_n hx hb dMo_endTexts_81 rfl (lv_at hl 1 rfl) ?_
              refine lv_iload_n hx hb dMo_endTexts_82 rfl (lv_at hl 2 rfl) ?_
              refine iv_if_eq (tgt := 95) hx hb dMo_endTexts_83 (by decide) ⟨by omega, by omega⟩ (fun hc83 => ?_) (fun hc83 => ?_)
              · refine lv_aload_n hx hb dMo_endTexts_95 rfl (lv_at hl 1 rfl) ?_
                refine va_get (D := (dC, dI)) (ci := 7) (v := .int (iI t9)) (C := "MacroReckonerModel") (T := TMo) (N := 23) hx hb hts inMo hown hK hP 0 rfl rfl 10 (by decide) (hts _ wt4_68) (fun _ h9 => h9) rfl dMo_endTexts_96 ?_
                refine va_put (D := (dC, dI)) (ci := 7) (v := .int (iI t9)) (ty := .int) (C := "MacroReckonerModel") (T := TMo) (N := 23) hx hb hts inMo tyMo tyMo_ok nmMo hown hK hP hD hS 0 rfl rfl 10 (by decide) (hts _ wt4_68) (fun _ h9 => h9) rfl (by decide +kernel) rfl rfl (Nat.le_of_ble_eq_true rfl) dMo_endTexts_99 (fun H locs hP hD hS => ?_)
                have hP : va_P (dC, dI) vwCl (wMo dA mo ft lf hg kk t9 pn tk fm tO tl mI mT mS mC mL mB mF mU mX mP mK mD mZ []) H := hP
                have hD : va_D A (wMo dA mo ft lf hg kk t9 pn tk fm tO tl mI mT mS mC mL mB mF mU mX mP mK mD mZ []) := hD
                refine lv_iload_n hx hb dMo_endTexts_102 rfl (lv_at hl 2 rfl) ?_
                refine iv_if_eq (tgt := 117) hx hb dMo_endTexts_103 (by decide) ⟨by omega, by omega⟩ (fun hc103 => ?_) (fun hc103 => absurd hc103 (by omega))
                refine lv_iconst (v := iI 0) hx hb dMo_endTexts_117 rfl ?_
                refine lv_istore_n (lv' := [(1, .int (iI 0)), (2, .int (iI p9)), (0, .ref mo)]) hx hb dMo_endTexts_118 rfl hl (by decide) rfl (fun ls hl => ?_)
                refine lv_goto (tgt := 13) hx hb dMo_endTexts_119 (by decide) ?_
                exact ih13 t9 0 H locs ls (by first | exact en_n h91 (hbl.resolve_left (fun z => by omega)).2 | exact en_s h91 (hbl.resolve_right (fun z => by omega)).2 hnb (by omega)) (by omega) hP hD hS (lv_sub hl [2, 0] rfl)
              · refine lv_aload_n hx hb dMo_endTexts_86 rfl (lv_at hl 1 rfl) ?_
                refine va_get (D := (dC, dI)) (ci := 7) (v := .int (iI t9)) (C := "MacroReckonerModel") (T := TMo) (N := 23) hx hb hts inMo hown hK hP 0 rfl rfl 10 (by decide) (hts _ wt4_68) (fun _ h9 => h9) rfl dMo_endTexts_87 ?_
                refine lv_iconst (v := iI 1) hx hb dMo_endTexts_90 rfl ?_
                refine iv_isub hx hb dMo_endTexts_91 ?_
                refine lv_goto (tgt := 99) hx hb dMo_endTexts_92 (by decide) ?_
                refine va_put (D := (dC, dI)) (ci := 7) (v := .int (iI (t9 - 1))) (ty := .int) (C := "MacroReckonerModel") (T := TMo) (N := 23) hx hb hts inMo tyMo tyMo_ok nmMo hown hK hP hD hS 0 rfl rfl 10 (by decide) (hts _ wt4_68) (fun _ h9 => h9) rfl (by decide +kernel) rfl rfl (Nat.le_of_ble_eq_true rfl) dMo_endTexts_99 (fun H locs hP hD hS => ?_)
                have hP : va_P (dC, dI) vwCl (wMo dA mo ft lf hg kk (t9 - 1) pn tk fm tO tl mI mT mS mC mL mB mF mU mX mP mK mD mZ []) H := hP
                have hD : va_D A (wMo dA mo ft lf hg kk (t9 - 1) pn tk fm tO tl mI mT mS mC mL mB mF mU mX mP mK mD mZ []) := hD
                refine lv_iload_n hx hb dMo_endTexts_102 rfl (lv_at hl 2 rfl) ?_
                refine iv_if_eq (tgt := 117) hx hb dMo_endTexts_103 (by decide) ⟨by omega, by omega⟩ (fun hc103 => absurd hc103 (by omega)) (fun hc103 => ?_)
                refine lv_aload_n hx hb dMo_endTexts_106 rfl (lv_at hl 1 rfl) ?_
                refine va_get (D := (dC, dI)) (ci := 7) (v := .int (iI ((t9 - 1)))) (C := "MacroReckonerModel") (T := TMo) (N := 23) hx hb hts inMo hown hK hP 0 rfl rfl 10 (by decide) (hts _ wt4_68) (fun _ h9 => h9) rfl dMo_endTexts_107 ?_
                refine iv_if_le (tgt := 117) hx hb dMo_endTexts_110 (by decide) ⟨by omega, by omega⟩ (fun hc110 => ?_) (fun hc110 => ?_)
                · refine lv_iconst (v := iI 0) hx hb dMo_endTexts_117 rfl ?_
                  refine lv_istore_n (lv' := [(1, .int (iI 0)), (2, .int (iI p9)), (0, .ref mo)]) hx hb dMo_endTexts_118 rfl hl (by decide) rfl (fun ls hl => ?_)
                  refine lv_goto (tgt := 13) hx hb dMo_endTexts_119 (by decide) ?_
                  exact ih13 (t9 - 1) 0 H locs ls (by first | exact en_n h91 (hbl.resolve_left (fun z => by omega)).2 | exact en_s h91 (hbl.resolve_right (fun z => by omega)).2 hnb (by omega)) (by omega) hP hD hS (lv_sub hl [2, 0] rfl)
                · refine lv_iconst (v := iI 1) hx hb dMo_endTexts_113 rfl ?_
                  refine lv_goto (tgt := 118) hx hb dMo_endTexts_114 (by decide) ?_
                  refine lv_istore_n (lv' := [(1, .int (iI 1)), (2, .int (iI p9)), (0, .ref mo)]) hx hb dMo_endTexts_118 rfl hl (by decide) rfl (fun ls hl => ?_)
                  refine lv_goto (tgt := 13) hx hb dMo_endTexts_119 (by decide) ?_
                  exact ih13 (t9 - 1) 1 H locs ls (by first | exact en_n h91 (hbl.resolve_left (fun z => by omega)).2 | exact en_s h91 (hbl.resolve_right (fun z => by omega)).2 hnb (by omega)) (by omega) hP hD hS (lv_sub hl [2, 0] rfl)
            · refine lv_iload_n hx hb dMo_endTexts_44 rfl (lv_at hl 2 rfl) ?_
              refine iv_if_eq (tgt := 73) hx hb dMo_endTexts_45 (by decide) ⟨by omega, by omega⟩ (fun hc45 => ?_) (fun hc45 => ?_)
              · refine lv_iconst (v := iI 0) hx hb dMo_endTexts_73 rfl ?_
                refine lv_istore_n (lv' := [(1, .int (iI 0)), (2, .int (iI p9)), (0, .ref mo)]) hx hb dMo_endTexts_74 rfl hl (by decide) rfl (fun ls hl => ?_)
                refine lv_iinc (k := 1) (lv' := [(2, .int (iI (p9 + 1))), (1, .int (iI 0)), (0, .ref mo)]) (v := iI (p9 + 1)) hx hb dMo_endTexts_75 hl rfl (iI_add _ _).symm (by decide) rfl (fun ls hl => ?_)
                refine lv_goto (tgt := 29) hx hb dMo_endTexts_78 (by decide) ?_
                exact ih29 (p9 + 1) 0 H locs ls (by omega) (by first | exact sp_1 ((show o8 = 1 by omega) ▸ hO) (by omega) | exact sp_2 (by omega) (by omega) | exact sp_3 ((show o8 = 0 by omega) ▸ hO)) (by omega) hP hD hS (lv_sub hl [0, 2, 1] rfl)
              · have hcc := hcr (t9 - 1) p9 (by omega) (by omega) (by omega) (by omega)
                refine lv_aload_n hx hb dMo_endTexts_48 rfl (lv_at hl 1 rfl) ?_
                refine va_get (D := (dC, dI)) (ci := 7) (v := .ref (mo + 9)) (C := "MacroReckonerModel") (T := TMo) (N := 23) hx hb hts inMo hown hK hP 0 rfl rfl 13 (by decide) (hts _ wt4_71) (fun _ h9 => h9) rfl dMo_endTexts_49 ?_
                refine lv_bipush (v := iI 60) hx hb dMo_endTexts_52 (by decide) ?_
                refine lv_aload_n hx hb dMo_endTexts_54 rfl (lv_at hl 1 rfl) ?_
                refine va_get (D := (dC, dI)) (ci := 7) (v := .int (iI t9)) (C := "MacroReckonerModel") (T := TMo) (N := 23) hx hb hts inMo hown hK hP 0 rfl rfl 10 (by decide) (hts _ wt4_68) (fun _ h9 => h9) rfl dMo_endTexts_55 ?_
                refine lv_iconst (v := iI 1) hx hb dMo_endTexts_58 rfl ?_
                refine iv_isub hx hb dMo_endTexts_59 ?_
                refine iv_imul hx hb dMo_endTexts_60 ?_
                refine lv_iload_n hx hb dMo_endTexts_61 rfl (lv_at hl 0 rfl) ?_
                refine iv_iadd hx hb dMo_endTexts_62 ?_
                refine iv_iald hx hb hK hP 9 0 rfl rfl (by decide) dMo_endTexts_63 (by omega) (by omega) ?_
                refine lv_bipush (v := iI 32) hx hb dMo_endTexts_64 (by decide) ?_
                refine iv_icmp_ne (tgt := 73) hx hb dMo_endTexts_66 (by decide) ⟨by omega, by omega⟩ ⟨by decide, by decide⟩ (fun hc66 => ?_) (fun hc66 => ?_)
                · refine lv_iconst (v := iI 0) hx hb dMo_endTexts_73 rfl ?_
                  refine lv_istore_n (lv' := [(1, .int (iI 0)), (2, .int (iI p9)), (0, .ref mo)]) hx hb dMo_endTexts_74 rfl hl (by decide) rfl (fun ls hl => ?_)
                  refine lv_iinc (k := 1) (lv' := [(2, .int (iI (p9 + 1))), (1, .int (iI 0)), (0, .ref mo)]) (v := iI (p9 + 1)) hx hb dMo_endTexts_75 hl rfl (iI_add _ _).symm (by decide) rfl (fun ls hl => ?_)
                  refine lv_goto (tgt := 29) hx hb dMo_endTexts_78 (by decide) ?_
                  exact ih29 (p9 + 1) 0 H locs ls (by omega) (by first | exact sp_1 ((show o8 = 1 by omega) ▸ hO) (by omega) | exact sp_2 (by omega) (by omega) | exact sp_3 ((show o8 = 0 by omega) ▸ hO)) (by omega) hP hD hS (lv_sub hl [0, 2, 1] rfl)
                · refine lv_iconst (v := iI 1) hx hb dMo_endTexts_69 rfl ?_
                  refine lv_goto (tgt := 74) hx hb dMo_endTexts_70 (by decide) ?_
                  refine lv_istore_n (lv' := [(1, .int (iI 1)), (2, .int (iI p9)), (0, .ref mo)]) hx hb dMo_endTexts_74 rfl hl (by decide) rfl (fun ls hl => ?_)
                  refine lv_iinc (k := 1) (lv' := [(2, .int (iI (p9 + 1))), (1, .int (iI 1)), (0, .ref mo)]) (v := iI (p9 + 1)) hx hb dMo_endTexts_75 hl rfl (iI_add _ _).symm (by decide) rfl (fun ls hl => ?_)
                  refine lv_goto (tgt := 29) hx hb dMo_endTexts_78 (by decide) ?_
                  exact ih29 (p9 + 1) 1 H locs ls (by omega) (by first | exact sp_1 ((show o8 = 1 by omega) ▸ hO) (by omega) | exact sp_2 (by omega) (by omega) | exact sp_3 ((show o8 = 0 by omega) ▸ hO)) (by omega) hP hD hS (lv_sub hl [0, 2, 1] rfl)
        exact L29 _ (mF (t9 - 1)) on H locs ls (by omega) (by rw [hon]; exact sp_0) (Nat.lt_succ_self _) hP hD hS (lv_sub hl [0, 1, 2] rfl)
  refine iv_if_le (tgt := 11) hx hb dMo_endTexts_4 (by decide) ⟨by omega, by omega⟩ (fun hc4 => ?_) (fun hc4 => ?_)
  · refine lv_iconst (v := iI 0) hx hb dMo_endTexts_11 rfl ?_
    refine lv_istore_n (lv' := [(1, .int (iI 0)), (0, .ref mo)]) hx hb dMo_endTexts_12 rfl hl (by decide) rfl (fun ls hl => ?_)
    exact J13 _ tx 0 H locs ls (by first | exact Or.inl ⟨rfl, Or.inl ⟨by omega, rfl⟩⟩ | exact Or.inl ⟨rfl, Or.inr ⟨by omega, rfl⟩⟩) (Nat.lt_succ_self _) hP hD hS (lv_sub hl [1, 0] rfl)
  · refine lv_iconst (v := iI 1) hx hb dMo_endTexts_7 rfl ?_
    refine lv_goto (tgt := 12) hx hb dMo_endTexts_8 (by decide) ?_
    refine lv_istore_n (lv' := [(1, .int (iI 1)), (0, .ref mo)]) hx hb dMo_endTexts_12 rfl hl (by decide) rfl (fun ls hl => ?_)
    exact J13 _ tx 1 H locs ls (by first | exact Or.inl ⟨rfl, Or.inl ⟨by omega, rfl⟩⟩ | exact Or.inl ⟨rfl, Or.inr ⟨by omega, rfl⟩⟩) (Nat.lt_succ_self _) hP hD hS (lv_sub hl [1, 0] rfl)

theorem dMo_lose_0 : decode prog_9_method_39_code 0 = .ok (.iload_n 1, 1) := by decide +kernel
theorem dMo_lose_1 : decode prog_9_method_39_code 1 = .ok (.istore_n 2, 1) := by decide +kernel
theorem dMo_lose_2 : decode prog_9_method_39_code 2 = .ok (.iload_n 2, 1) := by decide +kernel
theorem dMo_lose_3 : decode prog_9_method_39_code 3 = .ok (.aload_n 0, 1) := by decide +kernel
theorem dMo_lose_4 : decode prog_9_method_39_code 4 = .ok (.getfield 123, 3) := by decide +kernel
theorem dMo_lose_7 : decode prog_9_method_39_code 7 = .ok (.if_icmp .ge 23, 3) := by decide +kernel
theorem dMo_lose_10 : decode prog_9_method_39_code 10 = .ok (.aload_n 0, 1) := by decide +kernel
theorem dMo_lose_11 : decode prog_9_method_39_code 11 = .ok (.getfield 7, 3) := by decide +kernel
theorem dMo_lose_14 : decode prog_9_method_39_code 14 = .ok (.iload_n 2, 1) := by decide +kernel
theorem dMo_lose_15 : decode prog_9_method_39_code 15 = .ok (.iload_n 1, 1) := by decide +kernel
theorem dMo_lose_16 : decode prog_9_method_39_code 16 = .ok (.isub, 1) := by decide +kernel
theorem dMo_lose_17 : decode prog_9_method_39_code 17 = .ok (.aload_n 0, 1) := by decide +kernel
theorem dMo_lose_18 : decode prog_9_method_39_code 18 = .ok (.getfield 7, 3) := by decide +kernel
theorem dMo_lose_21 : decode prog_9_method_39_code 21 = .ok (.iload_n 2, 1) := by decide +kernel
theorem dMo_lose_22 : decode prog_9_method_39_code 22 = .ok (.iaload, 1) := by decide +kernel
theorem dMo_lose_23 : decode prog_9_method_39_code 23 = .ok (.iastore, 1) := by decide +kernel
theorem dMo_lose_24 : decode prog_9_method_39_code 24 = .ok (.iinc 2 1, 3) := by decide +kernel
theorem dMo_lose_27 : decode prog_9_method_39_code 27 = .ok (.goto (-25), 3) := by decide +kernel
theorem dMo_lose_30 : decode prog_9_method_39_code 30 = .ok (.aload_n 0, 1) := by decide +kernel
theorem dMo_lose_31 : decode prog_9_method_39_code 31 = .ok (.aload_n 0, 1) := by decide +kernel
theorem dMo_lose_32 : decode prog_9_method_39_code 32 = .ok (.getfield 123, 3) := by decide +kernel
theorem dMo_lose_35 : decode prog_9_method_39_code 35 = .ok (.iload_n 1, 1) := by decide +kernel
theorem dMo_lose_36 : decode prog_9_method_39_code 36 = .ok (.isub, 1) := by decide +kernel
theorem dMo_lose_37 : decode prog_9_method_39_code 37 = .ok (.putfield 123, 3) := by decide +kernel
theorem dMo_lose_40 : decode prog_9_method_39_code 40 = .ok (.return_, 1) := by decide +kernel
abbrev qMo_lose (dC : Nat → ClassId) (dI : Nat → Nat → Nat) (dA : Nat → ClassId) (mo : Nat) (ft : Int) (lf : Int) (hg : Int) (kk : Int) (tx : Int) (pn : Int) (tk : Int) (fm : Int) (tO : Int) (tl : Int) (mI : Int → Int) (mT : Int → Int) (mS : Int → Int) (mC : Int → Int) (mL : Int → Int) (mB : Int → Int) (mF : Int → Int) (mU : Int → Int) (mX : Int → Int) (mP : Int → Int) (mK : Int → Int) (mD : Int → Int) (mZ : Int → Int) (n0 : Int) (A : Nat → Prop) : Array Value → State → Outcome → State → Prop := QV (dC, dI) vwCl (tyA dA) (fun (v_ : (Int → Int)) => ∀ j, 0 ≤ j → j < lf - n0 → v_ j = mI (n0 + j)) (fun (v_ : (Int → Int)) => wMo dA mo ft (lf - n0) hg kk tx pn tk fm tO tl v_ mT mS mC mL mB mF mU mX mP mK mD mZ []) A
abbrev rmMo_lose : Room := { frames := 0, cells := 0, slots := 0, locals := 0 }
set_option maxRecDepth 100000 in
set_option maxHeartbeats 1000000 in
theorem cMo_lose (l : Launch) (dC : Nat → ClassId) (dI : Nat → Nat → Nat) (dA : Nat → ClassId) (mo : Nat) (ft : Int) (lf : Int) (hg : Int) (kk : Int) (tx : Int) (pn : Int) (tk : Int) (fm : Int) (tO : Int) (tl : Int) (mI : Int → Int) (mT : Int → Int) (mS : Int → Int) (mC : Int → Int) (mL : Int → Int) (mB : Int → Int) (mF : Int → Int) (mU : Int → Int) (mX : Int → Int) (mP : Int → Int) (mK : Int → Int) (mD : Int → Int) (mZ : Int → Int) (n0 : Int) (hn0 : 0 ≤ n0 ∧ n0 ≤ lf ∧ lf ≤ 100) (sz : Nat) : Met l yMo_lose wsMo_lose rmMo_lose (PC (dC, dI) vwCl (tyA dA) XN [.ref mo, .int (iI n0)] (wMo dA mo ft lf hg kk tx pn tk fm tO tl mI mT mS mC mL mB mF mU mX mP mK mD mZ []) sz) (qMo_lose dC dI dA mo ft lf hg kk tx pn tk fm tO tl mI mT mS mC mL mB mF mU mX mP mK mD mZ n0 (va_A (wMo dA mo ft lf hg kk tx pn tk fm tO tl mI mT mS mC mL mB mF mU mX mP mK mD mZ []) sz)) 0 0 (va_A (wMo dA mo ft lf hg kk tx pn tk fm tO tl mI mT mS mC mL mB mF mU mX mP mK mD mZ []) sz) := by
  refine met_of (cc := prog_9_method_39_code) (maxL := 3) (ret := none) (Qc := qMo_lose dC dI dA mo ft lf hg kk tx pn tk fm tO tl mI mT mS mC mL mB mF mU mX mP mK mD mZ n0) XN_ok (by decide) rfl (Nat.le_of_ble_eq_true rfl) ?_
  intro p e s m below meth c ls A hx hb hr hml hown hts hlocks hnm hK hP hD hA hX hS hl
  have hl : lv_has ls 3 [(0, .ref mo), (1, .int (iI n0))] := hl
  have hown : s.vm.findClass "MacroReckonerModel" = some m.cls := hown
  obtain ⟨H, hH⟩ : ∃ H : Heap, H = s.heap := ⟨_, rfl⟩
  obtain ⟨locs, hlo⟩ : ∃ L : List Loc, L = [] := ⟨_, rfl⟩
  have hP : va_P (dC, dI) vwCl (wMo dA mo ft lf hg kk tx pn tk fm tO tl mI mT mS mC mL mB mF mU mX mP mK mD mZ []) H := hH ▸ hP
  have hS : va_S A s.heap H locs := by rw [hH, hlo]; exact hS
  suffices hgo : W p l e rmMo_lose s m [.ref mo, .int (iI n0)].toArray below meth c H locs 0 0 (MQ below (qMo_lose dC dI dA mo ft lf hg kk tx pn tk fm tO tl mI mT mS mC mL mB mF mU mX mP mK mD mZ n0 A) [.ref mo, .int (iI n0)].toArray s 0 0 A) (F0 m 0 ls []) by rw [hH, hlo] at hgo; exact hgo
  clear hH hlo
  refine lv_iload_n hx hb dMo_lose_0 rfl (lv_at hl 1 rfl) ?_
  refine lv_istore_n (lv' := [(2, .int (iI n0)), (0, .ref mo), (1, .int (iI n0))]) hx hb dMo_lose_1 rfl hl (by decide) rfl (fun ls hl => ?_)
  have L2 : ∀ (n : Nat) (I9 : Int → Int) (p9 : Int) (H : Heap) (locs : List Loc) (ls : Array Slot), (n0 ≤ p9 ∧ p9 ≤ lf) → (∀ j, 0 ≤ j → j < p9 - n0 → I9 j = mI (n0 + j)) → (∀ j, p9 ≤ j → I9 j = mI j) → (lf - p9).toNat < n → va_P (dC, dI) vwCl (wMo dA mo ft lf hg kk tx pn tk fm tO tl I9 mT mS mC mL mB mF mU mX mP mK mD mZ []) H → va_D A (wMo dA mo ft lf hg kk tx pn tk fm tO tl I9 mT mS mC mL mB mF mU mX mP mK mD mZ []) → va_S A s.heap H locs → lv_has ls 3 [(2, .int (iI p9)), (0, .ref mo), (1, .int (iI n0))] → W p l e rmMo_lose s m [.ref mo, .int (iI n0)].toArray below meth c H locs 0 0 (MQ below (qMo_lose dC dI dA mo ft lf hg kk tx pn tk fm tO tl mI mT mS mC mL mB mF mU mX mP mK mD mZ n0 A) [.ref mo, .int (iI n0)].toArray s 0 0 A) (F0 m 2 ls []) := by
    intro n
    induction n with
    | zero => intro I9 p9 H locs ls hp h0 h1 hn; omega
    | succ n ih =>
      intro I9 p9 H locs ls hp h0 h1 hn hP hD hS hl
      have ih2 := ih
      refine lv_iload_n hx hb dMo_lose_2 rfl (lv_at hl 0 rfl) ?_
      refine lv_aload_n hx hb dMo_lose_3 rfl (lv_at hl 1 rfl) ?_
      refine va_get (D := (dC, dI)) (ci := 7) (v := .int (iI lf)) (C := "MacroReckonerModel") (T := TMo) (N := 23) hx hb hts inMo hown hK hP 0 rfl rfl 1 (by decide) (hts _ wt4_59) (fun _ h9 => h9) rfl dMo_lose_4 ?_
      refine iv_icmp_ge (tgt := 30) hx hb dMo_lose_7 (by decide) ⟨by omega, by omega⟩ ⟨by omega, by omega⟩ (fun hc7 => ?_) (fun hc7 => ?_)
      · refine lv_aload_n hx hb dMo_lose_30 rfl (lv_at hl 1 rfl) ?_
        refine lv_aload_n hx hb dMo_lose_31 rfl (lv_at hl 1 rfl) ?_
        refine va_get (D := (dC, dI)) (ci := 7) (v := .int (iI lf)) (C := "MacroReckonerModel") (T := TMo) (N := 23) hx hb hts inMo hown hK hP 0 rfl rfl 1 (by decide) (hts _ wt4_59) (fun _ h9 => h9) rfl dMo_lose_32 ?_
        refine lv_iload_n hx hb dMo_lose_35 rfl (lv_at hl 2 rfl) ?_
        refine iv_isub hx hb dMo_lose_36 ?_
        refine va_put (D := (dC, dI)) (ci := 7) (v := .int (iI (lf - n0))) (ty := .int) (C := "MacroReckonerModel") (T := TMo) (N := 23) hx hb hts inMo tyMo tyMo_ok nmMo hown hK hP hD hS 0 rfl rfl 1 (by decide) (hts _ wt4_59) (fun _ h9 => h9) rfl (by decide +kernel) rfl rfl (Nat.le_of_ble_eq_true rfl) dMo_lose_37 (fun H locs hP hD hS => ?_)
        have hP : va_P (dC, dI) vwCl (wMo dA mo ft (lf - n0) hg kk tx pn tk fm tO tl I9 mT mS mC mL mB mF mU mX mP mK mD mZ []) H := hP
        have hD : va_D A (wMo dA mo ft (lf - n0) hg kk tx pn tk fm tO tl I9 mT mS mC mL mB mF mU mX mP mK mD mZ []) := hD
        exact rt_v hx hb hr hlocks hK hS dMo_lose_40 (I9) hP hD (show ∀ j, 0 ≤ j → j < lf - n0 → I9 j = mI (n0 + j) from by exact fun j x y => h0 j x (by omega))
      · refine lv_aload_n hx hb dMo_lose_10 rfl (lv_at hl 1 rfl) ?_
        refine va_get (D := (dC, dI)) (ci := 7) (v := .ref (mo + 1)) (C := "MacroReckonerModel") (T := TMo) (N := 23) hx hb hts inMo hown hK hP 0 rfl rfl 2 (by decide) (hts _ wt4_60) (fun _ h9 => h9) rfl dMo_lose_11 ?_
        refine lv_iload_n hx hb dMo_lose_14 rfl (lv_at hl 0 rfl) ?_
        refine lv_iload_n hx hb dMo_lose_15 rfl (lv_at hl 2 rfl) ?_
        refine iv_isub hx hb dMo_lose_16 ?_
        refine lv_aload_n hx hb dMo_lose_17 rfl (lv_at hl 1 rfl) ?_
        refine va_get (D := (dC, dI)) (ci := 7) (v := .ref (mo + 1)) (C := "MacroReckonerModel") (T := TMo) (N := 23) hx hb hts inMo hown hK hP 0 rfl rfl 2 (by decide) (hts _ wt4_60) (fun _ h9 => h9) rfl dMo_lose_18 ?_
        refine lv_iload_n hx hb dMo_lose_21 rfl (lv_at hl 0 rfl) ?_
        refine iv_iald hx hb hK hP 1 0 rfl rfl (by decide) dMo_lose_22 (by omega) (by omega) ?_
        refine iv_iast (v := I9 p9) hx hb hK hP hD hS 1 0 rfl rfl (by decide) dMo_lose_23 (by omega) (by omega) (fun H locs hP hD hS => ?_)
        have hP : va_P (dC, dI) vwCl (wMo dA mo ft lf hg kk tx pn tk fm tO tl (up I9 (p9 - n0) (I9 p9)) mT mS mC mL mB mF mU mX mP mK mD mZ []) H := hP
        have hD : va_D A (wMo dA mo ft lf hg kk tx pn tk fm tO tl (up I9 (p9 - n0) (I9 p9)) mT mS mC mL mB mF mU mX mP mK mD mZ []) := hD
        refine lv_iinc (k := 0) (lv' := [(2, .int (iI (p9 + 1))), (0, .ref mo), (1, .int (iI n0))]) (v := iI (p9 + 1)) hx hb dMo_lose_24 hl rfl (iI_add _ _).symm (by decide) rfl (fun ls hl => ?_)
        refine lv_goto (tgt := 2) hx hb dMo_lose_27 (by decide) ?_
        exact ih2 (up I9 (p9 - n0) (I9 p9)) (p9 + 1) H locs ls (by omega) (by intro j x y; by_cases z : j = p9 - n0; rw [z, up_s, h1 p9 (by omega)]; congr 1; omega; rw [up_n z]; exact h0 j x (by omega)) (by intro j x; rw [up_n (by omega)]; exact h1 j (by omega)) (by omega) hP hD hS (lv_sub hl [0, 1, 2] rfl)
  exact L2 _ mI n0 H locs ls (by omega) (by intro j x y; omega) (by intro j _; rfl) (Nat.lt_succ_self _) hP hD hS (lv_sub hl [0, 1, 2] rfl)

theorem dMo_takeToken_0 : decode prog_9_method_40_code 0 = .ok (.aload_n 0, 1) := by decide +kernel
theorem dMo_takeToken_1 : decode prog_9_method_40_code 1 = .ok (.aload_n 0, 1) := by decide +kernel
theorem dMo_takeToken_2 : decode prog_9_method_40_code 2 = .ok (.getfield 132, 3) := by decide +kernel
theorem dMo_takeToken_5 : decode prog_9_method_40_code 5 = .ok (.aload_n 0, 1) := by decide +kernel
theorem dMo_takeToken_6 : decode prog_9_method_40_code 6 = .ok (.getfield 126, 3) := by decide +kernel
theorem dMo_takeToken_9 : decode prog_9_method_40_code 9 = .ok (.isub, 1) := by decide +kernel
theorem dMo_takeToken_10 : decode prog_9_method_40_code 10 = .ok (.putfield 154, 3) := by decide +kernel
theorem dMo_takeToken_13 : decode prog_9_method_40_code 13 = .ok (.aload_n 0, 1) := by decide +kernel
theorem dMo_takeToken_14 : decode prog_9_method_40_code 14 = .ok (.getfield 126, 3) := by decide +kernel
theorem dMo_takeToken_17 : decode prog_9_method_40_code 17 = .ok (.istore_n 1, 1) := by decide +kernel
theorem dMo_takeToken_18 : decode prog_9_method_40_code 18 = .ok (.iload_n 1, 1) := by decide +kernel
theorem dMo_takeToken_19 : decode prog_9_method_40_code 19 = .ok (.aload_n 0, 1) := by decide +kernel
theorem dMo_takeToken_20 : decode prog_9_method_40_code 20 = .ok (.getfield 132, 3) := by decide +kernel
theorem dMo_takeToken_23 : decode prog_9_method_40_code 23 = .ok (.if_icmp .ge 25, 3) := by decide +kernel
theorem dMo_takeToken_26 : decode prog_9_method_40_code 26 = .ok (.aload_n 0, 1) := by decide +kernel
theorem dMo_takeToken_27 : decode prog_9_method_40_code 27 = .ok (.getfield 41, 3) := by decide +kernel
theorem dMo_takeToken_30 : decode prog_9_method_40_code 30 = .ok (.iload_n 1, 1) := by decide +kernel
theorem dMo_takeToken_31 : decode prog_9_method_40_code 31 = .ok (.aload_n 0, 1) := by decide +kernel
theorem dMo_takeToken_32 : decode prog_9_method_40_code 32 = .ok (.getfield 126, 3) := by decide +kernel
theorem dMo_takeToken_35 : decode prog_9_method_40_code 35 = .ok (.isub, 1) := by decide +kernel
theorem dMo_takeToken_36 : decode prog_9_method_40_code 36 = .ok (.aload_n 0, 1) := by decide +kernel
theorem dMo_takeToken_37 : decode prog_9_method_40_code 37 = .ok (.iload_n 1, 1) := by decide +kernel
theorem dMo_takeToken_38 : decode prog_9_method_40_code 38 = .ok (.invokevirtual 129, 3) := by decide +kernel
theorem dMo_takeToken_41 : decode prog_9_method_40_code 41 = .ok (.iastore, 1) := by decide +kernel
theorem dMo_takeToken_42 : decode prog_9_method_40_code 42 = .ok (.iinc 1 1, 3) := by decide +kernel
theorem dMo_takeToken_45 : decode prog_9_method_40_code 45 = .ok (.goto (-27), 3) := by decide +kernel
theorem dMo_takeToken_48 : decode prog_9_method_40_code 48 = .ok (.aload_n 0, 1) := by decide +kernel
theorem dMo_takeToken_49 : decode prog_9_method_40_code 49 = .ok (.getfield 120, 3) := by decide +kernel
theorem dMo_takeToken_52 : decode prog_9_method_40_code 52 = .ok (.ifCond .le 25, 3) := by decide +kernel
theorem dMo_takeToken_55 : decode prog_9_method_40_code 55 = .ok (.aload_n 0, 1) := by decide +kernel
theorem dMo_takeToken_56 : decode prog_9_method_40_code 56 = .ok (.getfield 29, 3) := by decide +kernel
theorem dMo_takeToken_59 : decode prog_9_method_40_code 59 = .ok (.aload_n 0, 1) := by decide +kernel
theorem dMo_takeToken_60 : decode prog_9_method_40_code 60 = .ok (.getfield 120, 3) := by decide +kernel
theorem dMo_takeToken_63 : decode prog_9_method_40_code 63 = .ok (.iconst 1, 1) := by decide +kernel
theorem dMo_takeToken_64 : decode prog_9_method_40_code 64 = .ok (.isub, 1) := by decide +kernel
theorem dMo_takeToken_65 : decode prog_9_method_40_code 65 = .ok (.aload_n 0, 1) := by decide +kernel
theorem dMo_takeToken_66 : decode prog_9_method_40_code 66 = .ok (.getfield 132, 3) := by decide +kernel
theorem dMo_takeToken_69 : decode prog_9_method_40_code 69 = .ok (.iastore, 1) := by decide +kernel
theorem dMo_takeToken_70 : decode prog_9_method_40_code 70 = .ok (.aload_n 0, 1) := by decide +kernel
theorem dMo_takeToken_71 : decode prog_9_method_40_code 71 = .ok (.invokevirtual 157, 3) := by decide +kernel
theorem dMo_takeToken_74 : decode prog_9_method_40_code 74 = .ok (.goto 11, 3) := by decide +kernel
theorem dMo_takeToken_77 : decode prog_9_method_40_code 77 = .ok (.aload_n 0, 1) := by decide +kernel
theorem dMo_takeToken_78 : decode prog_9_method_40_code 78 = .ok (.aload_n 0, 1) := by decide +kernel
theorem dMo_takeToken_79 : decode prog_9_method_40_code 79 = .ok (.getfield 132, 3) := by decide +kernel
theorem dMo_takeToken_82 : decode prog_9_method_40_code 82 = .ok (.invokevirtual 160, 3) := by decide +kernel
theorem dMo_takeToken_85 : decode prog_9_method_40_code 85 = .ok (.return_, 1) := by decide +kernel
abbrev qMo_takeToken (dC : Nat → ClassId) (dI : Nat → Nat → Nat) (dA : Nat → ClassId) (mo : Nat) (ft : Int) (lf : Int) (hg : Int) (kk : Int) (tx : Int) (pn : Int) (tk : Int) (fm : Int) (tO : Int) (tl : Int) (mI : Int → Int) (mT : Int → Int) (mS : Int → Int) (mC : Int → Int) (mL : Int → Int) (mB : Int → Int) (mF : Int → Int) (mU : Int → Int) (mX : Int → Int) (mP : Int → Int) (mK : Int → Int) (mD : Int → Int) (mZ : Int → Int) (st : AS) (s0 : Int) (e0 : Int) (lg : Int) (A : Nat → Prop) : Array Value → State → Outcome → State → Prop := QV (dC, dI) vwCl (tyA dA) (fun (v_ : (Int → Int) × (Int → Int) × Int × (Int → Int) × Int) => (∀ j, 0 ≤ j → j < lg → v_.1 j = srD st j) ∧ MX v_.2.1 mU mX v_.2.2.1 (takA st lg) ∧ MI v_.2.2.2.1 v_.2.2.2.2 (takA st lg)) (fun (v_ : (Int → Int) × (Int → Int) × Int × (Int → Int) × Int) => wMo dA mo ft v_.2.2.2.2 hg kk v_.2.2.1 pn tk fm tO (tO - fm) v_.2.2.2.1 mT mS mC mL mB v_.2.1 mU mX mP v_.1 mD mZ []) A
abbrev rmMo_takeToken : Room := { frames := 1, cells := 0, slots := 0, locals := 22 }
set_option maxRecDepth 100000 in
set_option maxHeartbeats 1000000 in
theorem cMo_takeToken (l : Launch) (dC : Nat → ClassId) (dI : Nat → Nat → Nat) (dA : Nat → ClassId) (mo : Nat) (ft : Int) (lf : Int) (hg : Int) (kk : Int) (tx : Int) (pn : Int) (tk : Int) (fm : Int) (tO : Int) (tl : Int) (mI : Int → Int) (mT : Int → Int) (mS : Int → Int) (mC : Int → Int) (mL : Int → Int) (mB : Int → Int) (mF : Int → Int) (mU : Int → Int) (mX : Int → Int) (mP : Int → Int) (mK : Int → Int) (mD : Int → Int) (mZ : Int → Int) (st : AS) (s0 : Int) (e0 : Int) (lg : Int) (hMX : MX mF mU mX tx st) (hMI : MI mI lf st) (hsr : srJ tx lf mF mU s0 e0) (hsk : skR (gS tx mX mI) s0 e0 fm) (hlg : 0 ≤ lg ∧ fm + lg ≤ e0 ∧ tO = fm + lg) (sz : Nat) : Met l yMo_takeToken wsMo_takeToken rmMo_takeToken (PC (dC, dI) vwCl (tyA dA) XN [.ref mo] (wMo dA mo ft lf hg kk tx pn tk fm tO tl mI mT mS mC mL mB mF mU mX mP mK mD mZ []) sz) (qMo_takeToken dC dI dA mo ft lf hg kk tx pn tk fm tO tl mI mT mS mC mL mB mF mU mX mP mK mD mZ st s0 e0 lg (va_A (wMo dA mo ft lf hg kk tx pn tk fm tO tl mI mT mS mC mL mB mF mU mX mP mK mD mZ []) sz)) 0 0 (va_A (wMo dA mo ft lf hg kk tx pn tk fm tO tl mI mT mS mC mL mB mF mU mX mP mK mD mZ []) sz) := by
  refine met_of (cc := prog_9_method_40_code) (maxL := 2) (ret := none) (Qc := qMo_takeToken dC dI dA mo ft lf hg kk tx pn tk fm tO tl mI mT mS mC mL mB mF mU mX mP mK mD mZ st s0 e0 lg) XN_ok (by decide) rfl (Nat.le_of_ble_eq_true rfl) ?_
  intro p e s m below meth c ls A hx hb hr hml hown hts hlocks hnm hK hP hD hA hX hS hl
  have hl : lv_has ls 2 [(0, .ref mo)] := hl
  have hown : s.vm.findClass "MacroReckonerModel" = some m.cls := hown
  obtain ⟨H, hH⟩ : ∃ H : Heap, H = s.heap := ⟨_, rfl⟩
  obtain ⟨locs, hlo⟩ : ∃ L : List Loc, L = [] := ⟨_, rfl⟩
  have hP : va_P (dC, dI) vwCl (wMo dA mo ft lf hg kk tx pn tk fm tO tl mI mT mS mC mL mB mF mU mX mP mK mD mZ []) H := hH ▸ hP
  have hS : va_S A s.heap H locs := by rw [hH, hlo]; exact hS
  suffices hgo : W p l e rmMo_takeToken s m [.ref mo].toArray below meth c H locs 0 0 (MQ below (qMo_takeToken dC dI dA mo ft lf hg kk tx pn tk fm tO tl mI mT mS mC mL mB mF mU mX mP mK mD mZ st s0 e0 lg A) [.ref mo].toArray s 0 0 A) (F0 m 0 ls []) by rw [hH, hlo] at hgo; exact hgo
  clear hH hlo
  obtain ⟨hag, hcr⟩ := src_x hMX hMI hsr hsk
  have hsr0 := hsr
  unfold srJ at hsr
  have hk1 := hsk.1
  have hx1 := hMX.1
  have hag1 := hag.1
  have hi1 := hMI.1
  refine lv_aload_n hx hb dMo_takeToken_0 rfl (lv_at hl 0 rfl) ?_
  refine lv_aload_n hx hb dMo_takeToken_1 rfl (lv_at hl 0 rfl) ?_
  refine va_get (D := (dC, dI)) (ci := 7) (v := .int (iI tO)) (C := "MacroReckonerModel") (T := TMo) (N := 23) hx hb hts inMo hown hK hP 0 rfl rfl 18 (by decide) (hts _ wt4_76) (fun _ h9 => h9) rfl dMo_takeToken_2 ?_
  refine lv_aload_n hx hb dMo_takeToken_5 rfl (lv_at hl 0 rfl) ?_
  refine va_get (D := (dC, dI)) (ci := 7) (v := .int (iI fm)) (C := "MacroReckonerModel") (T := TMo) (N := 23) hx hb hts inMo hown hK hP 0 rfl rfl 17 (by decide) (hts _ wt4_75) (fun _ h9 => h9) rfl dMo_takeToken_6 ?_
  refine iv_isub hx hb dMo_takeToken_9 ?_
  refine va_put (D := (dC, dI)) (ci := 7) (v := .int (iI (tO - fm))) (ty := .int) (C := "MacroReckonerModel") (T := TMo) (N := 23) hx hb hts inMo tyMo tyMo_ok nmMo hown hK hP hD hS 0 rfl rfl 20 (by decide) (hts _ wt4_78) (fun _ h9 => h9) rfl (by decide +kernel) rfl rfl (Nat.le_of_ble_eq_true rfl) dMo_takeToken_10 (fun H locs hP hD hS => ?_)
  have hP : va_P (dC, dI) vwCl (wMo dA mo ft lf hg kk tx pn tk fm tO (tO - fm) mI mT mS mC mL mB mF mU mX mP mK mD mZ []) H := hP
  have hD : va_D A (wMo dA mo ft lf hg kk tx pn tk fm tO (tO - fm) mI mT mS mC mL mB mF mU mX mP mK mD mZ []) := hD
  refine lv_aload_n hx hb dMo_takeToken_13 rfl (lv_at hl 0 rfl) ?_
  refine va_get (D := (dC, dI)) (ci := 7) (v := .int (iI fm)) (C := "MacroReckonerModel") (T := TMo) (N := 23) hx hb hts inMo hown hK hP 0 rfl rfl 17 (by decide) (hts _ wt4_75) (fun _ h9 => h9) rfl dMo_takeToken_14 ?_
  refine lv_istore_n (lv' := [(1, .int (iI fm)), (0, .ref mo)]) hx hb dMo_takeToken_17 rfl hl (by decide) rfl (fun ls hl => ?_)
  have L18 : ∀ (n : Nat) (K9 : Int → Int) (p9 : Int) (H : Heap) (locs : List Loc) (ls : Array Slot), (fm ≤ p9 ∧ p9 ≤ tO) → (∀ j, 0 ≤ j → j < p9 - fm → K9 j = gS tx mX mI (fm + j)) → (tO - p9).toNat < n → va_P (dC, dI) vwCl (wMo dA mo ft lf hg kk tx pn tk fm tO (tO - fm) mI mT mS mC mL mB mF mU mX mP K9 mD mZ []) H → va_D A (wMo dA mo ft lf hg kk tx pn tk fm tO (tO - fm) mI mT mS mC mL mB mF mU mX mP K9 mD mZ []) → va_S A s.heap H locs → lv_has ls 2 [(1, .int (iI p9)), (0, .ref mo)] → W p l e rmMo_takeToken s m [.ref mo].toArray below meth c H locs 0 0 (MQ below (qMo_takeToken dC dI dA mo ft lf hg kk tx pn tk fm tO tl mI mT mS mC mL mB mF mU mX mP mK mD mZ st s0 e0 lg A) [.ref mo].toArray s 0 0 A) (F0 m 18 ls []) := by
    intro n
    induction n with
    | zero => intro K9 p9 H locs ls hp h0 hn; omega
    | succ n ih =>
      intro K9 p9 H locs ls hp h0 hn hP hD hS hl
      have ih18 := ih
      refine lv_iload_n hx hb dMo_takeToken_18 rfl (lv_at hl 0 rfl) ?_
      refine lv_aload_n hx hb dMo_takeToken_19 rfl (lv_at hl 1 rfl) ?_
      refine va_get (D := (dC, dI)) (ci := 7) (v := .int (iI tO)) (C := "MacroReckonerModel") (T := TMo) (N := 23) hx hb hts inMo hown hK hP 0 rfl rfl 18 (by decide) (hts _ wt4_76) (fun _ h9 => h9) rfl dMo_takeToken_20 ?_
      refine iv_icmp_ge (tgt := 48) hx hb dMo_takeToken_23 (by decide) ⟨by omega, by omega⟩ ⟨by omega, by omega⟩ (fun hc23 => ?_) (fun hc23 => ?_)
      · have hK9 : ∀ j, 0 ≤ j → j < lg → K9 j = srD st j := fun j x y => by rw [hag.2 j x (by omega)]; exact h0 j x (by omega)
        refine lv_aload_n hx hb dMo_takeToken_48 rfl (lv_at hl 1 rfl) ?_
        refine va_get (D := (dC, dI)) (ci := 7) (v := .int (iI tx)) (C := "MacroReckonerModel") (T := TMo) (N := 23) hx hb hts inMo hown hK hP 0 rfl rfl 10 (by decide) (hts _ wt4_68) (fun _ h9 => h9) rfl dMo_takeToken_49 ?_
        refine iv_if_le (tgt := 77) hx hb dMo_takeToken_52 (by decide) ⟨by omega, by omega⟩ (fun hc52 => ?_) (fun hc52 => ?_)
        · refine lv_aload_n hx hb dMo_takeToken_77 rfl (lv_at hl 1 rfl) ?_
          refine lv_aload_n hx hb dMo_takeToken_78 rfl (lv_at hl 1 rfl) ?_
          refine va_get (D := (dC, dI)) (ci := 7) (v := .int (iI tO)) (C := "MacroReckonerModel") (T := TMo) (N := 23) hx hb hts inMo hown hK hP 0 rfl rfl 18 (by decide) (hts _ wt4_76) (fun _ h9 => h9) rfl dMo_takeToken_79 ?_
          refine cv_v (va_runV (C := "MacroReckonerModel") (As := [.int (iI tO)]) (rest := []) ⟨hx, hb, hml, hown, hts⟩ (cMo_lose l dC dI dA mo ft lf hg kk tx pn tk fm tO ((tO - fm)) mI mT mS mC mL mB mF mU mX mP K9 mD mZ tO (by omega) H.size) (cwV 1 hts (gdV wt4_179 wt4_181 ws3_15 wt1_8 wt4_182) rfl rfl rfl ⟨rfl, by decide, by decide, by decide +kernel⟩ ⟨by decide, by decide⟩) (preV (q := ("MacroReckonerModel", TMo, 23)) hK hP hD hS hA XN_ok trivial [0, 1, 2, 3, 4, 5, 6, 7, 8, 9, 10, 11, 12, 13] rfl rfl 0 rfl rfl) rfl rfl hl.1 rfl (lv_room (Nat.le_of_ble_eq_true rfl)) dMo_takeToken_82 ⟨Nat.zero_le _, Nat.zero_le _⟩) hP hD hS hA [0, 1, 2, 3, 4, 5, 6, 7, 8, 9, 10, 11, 12, 13] [] rfl (fun v_ => wMo dA mo ft ((lf - tO)) hg kk tx pn tk fm tO (((tO - fm))) v_ mT mS mC mL mB mF mU mX mP K9 mD mZ []) (fun _ => rfl) ([] : va_W) rfl (fun _ => rfl) [mo, mo + 1, mo + 2, mo + 3, mo + 4, mo + 5, mo + 6, mo + 7, mo + 8, mo + 9, mo + 10, mo + 11, mo + 12, mo + 13] rfl (fun _ => rfl) (fun _ => rfl) (fun u_ H locs hq82 hP hD hS => ?_)
          obtain ⟨I7, rfl⟩ : ∃ z, z = u_ := ⟨_, rfl⟩
          have hP : va_P (dC, dI) vwCl (wMo dA mo ft ((lf - tO)) hg kk tx pn tk fm tO (((tO - fm))) I7 mT mS mC mL mB mF mU mX mP K9 mD mZ []) H := hP
          have hD : va_D A (wMo dA mo ft ((lf - tO)) hg kk tx pn tk fm tO (((tO - fm))) I7 mT mS mC mL mB mF mU mX mP K9 mD mZ []) := hD
          have hq82 : ∀ j, 0 ≤ j → j < lf - tO → I7 j = mI (tO + j) := hq82
          exact rt_v hx hb hr hlocks hK hS dMo_takeToken_85 (K9, mF, tx, I7, (lf - tO)) hP hD (show (∀ j, 0 ≤ j → j < lg → K9 j = srD st j) ∧ MX mF mU mX tx (takA st lg) ∧ MI I7 ((lf - tO)) (takA st lg) from by first | (have h := tak_x hMX hMI hsr0 hsk (lg := lg) (tx1 := tx7) (by omega) (by omega) (by rw [← hlg.2.2]; exact hq71); rw [← hlg.2.2] at h; exact ⟨hK9, h.1, h.2⟩) | (have h := tak_i (I1 := I7) hMX hMI hsr0 hsk (lg := lg) (by omega) (by omega) (fun j x y => by rw [← hlg.2.2] at y ⊢; exact hq82 j x y); rw [← hlg.2.2] at h; exact ⟨hK9, h.1, h.2⟩))
        · refine lv_aload_n hx hb dMo_takeToken_55 rfl (lv_at hl 1 rfl) ?_
          refine va_get (D := (dC, dI)) (ci := 7) (v := .ref (mo + 7)) (C := "MacroReckonerModel") (T := TMo) (N := 23) hx hb hts inMo hown hK hP 0 rfl rfl 11 (by decide) (hts _ wt4_69) (fun _ h9 => h9) rfl dMo_takeToken_56 ?_
          refine lv_aload_n hx hb dMo_takeToken_59 rfl (lv_at hl 1 rfl) ?_
          refine va_get (D := (dC, dI)) (ci := 7) (v := .int (iI tx)) (C := "MacroReckonerModel") (T := TMo) (N := 23) hx hb hts inMo hown hK hP 0 rfl rfl 10 (by decide) (hts _ wt4_68) (fun _ h9 => h9) rfl dMo_takeToken_60 ?_
          refine lv_iconst (v := iI 1) hx hb dMo_takeToken_63 rfl ?_
          refine iv_isub hx hb dMo_takeToken_64 ?_
          refine lv_aload_n hx hb dMo_takeToken_65 rfl (lv_at hl 1 rfl) ?_
          refine va_get (D := (dC, dI)) (ci := 7) (v := .int (iI tO)) (C := "MacroReckonerModel") (T := TMo) (N := 23) hx hb hts inMo hown hK hP 0 rfl rfl 18 (by decide) (hts _ wt4_76) (fun _ h9 => h9) rfl dMo_takeToken_66 ?_
          refine iv_iast (v := tO) hx hb hK hP hD hS 7 0 rfl rfl (by decide) dMo_takeToken_69 (by omega) (by omega) (fun H locs hP hD hS => ?_)
          have hP : va_P (dC, dI) vwCl (wMo dA mo ft lf hg kk tx pn tk fm tO (tO - fm) mI mT mS mC mL mB (up mF (tx - 1) tO) mU mX mP K9 mD mZ []) H := hP
          have hD : va_D A (wMo dA mo ft lf hg kk tx pn tk fm tO (tO - fm) mI mT mS mC mL mB (up mF (tx - 1) tO) mU mX mP K9 mD mZ []) := hD
          refine lv_aload_n hx hb dMo_takeToken_70 rfl (lv_at hl 1 rfl) ?_
          refine cv_v (va_runV (C := "MacroReckonerModel") (As := []) (rest := []) ⟨hx, hb, hml, hown, hts⟩ (cMo_endTexts l dC dI dA mo ft lf hg kk tx pn tk fm tO ((tO - fm)) mI mT mS mC mL mB ((up mF (tx - 1) tO)) mU mX mP K9 mD mZ (by omega) (by intro i x y; by_cases z : i = tx - 1; rw [z, up_s]; omega; rw [up_n z]; obtain ⟨b1, b2, b3, q, b4, b5, b6⟩ := hMX.2 i x y; have := b4.1; omega) (by intro i j x y z w; obtain ⟨b1, b2, b3, -⟩ := hMX.2 i x y; have := b3 j (by by_cases v : i = tx - 1; rw [v, up_s] at z; have : mF i = s0 := (by rw [v]; omega); omega; rw [up_n v] at z; exact z) w; omega) (by intro i x y; rw [up_n (by omega)]; exact MX_nb hMX x (by omega)) H.size) (cwV 0 hts (gdV wt4_175 wt4_177 ws3_14 wt1_8 wt4_178) rfl rfl rfl ⟨rfl, by decide, by decide, by decide +kernel⟩ ⟨by decide, by decide⟩) (preV (q := ("MacroReckonerModel", TMo, 23)) hK hP hD hS hA XN_ok trivial [0, 1, 2, 3, 4, 5, 6, 7, 8, 9, 10, 11, 12, 13] rfl rfl 0 rfl rfl) rfl rfl hl.1 rfl (lv_room (Nat.le_of_ble_eq_true rfl)) dMo_takeToken_71 ⟨Nat.zero_le _, Nat.zero_le _⟩) hP hD hS hA [0, 1, 2, 3, 4, 5, 6, 7, 8, 9, 10, 11, 12, 13] [] rfl (fun v_ => wMo dA mo ft lf hg kk v_ pn tk fm tO (((tO - fm))) mI mT mS mC mL mB (((up mF (tx - 1) tO))) mU mX mP K9 mD mZ []) (fun _ => rfl) ([] : va_W) rfl (fun _ => rfl) [mo, mo + 1, mo + 2, mo + 3, mo + 4, mo + 5, mo + 6, mo + 7, mo + 8, mo + 9, mo + 10, mo + 11, mo + 12, mo + 13] rfl (fun _ => rfl) (fun _ => rfl) (fun u_ H locs hq71 hP hD hS => ?_)
          obtain ⟨tx7, rfl⟩ : ∃ z, z = u_ := ⟨_, rfl⟩
          have hP : va_P (dC, dI) vwCl (wMo dA mo ft lf hg kk tx7 pn tk fm tO (((tO - fm))) mI mT mS mC mL mB (((up mF (tx - 1) tO))) mU mX mP K9 mD mZ []) H := hP
          have hD : va_D A (wMo dA mo ft lf hg kk tx7 pn tk fm tO (((tO - fm))) mI mT mS mC mL mB (((up mF (tx - 1) tO))) mU mX mP K9 mD mZ []) := hD
          have hq71 : enP ((up mF (tx - 1) tO)) mU mX tx tx7 := hq71
          refine lv_goto (tgt := 85) hx hb dMo_takeToken_74 (by decide) ?_
          exact rt_v hx hb hr hlocks hK hS dMo_takeToken_85 (K9, ((up mF (tx - 1) tO)), tx7, mI, lf) hP hD (show (∀ j, 0 ≤ j → j < lg → K9 j = srD st j) ∧ MX (((up mF (tx - 1) tO))) mU mX tx7 (takA st lg) ∧ MI mI lf (takA st lg) from by first | (have h := tak_x hMX hMI hsr0 hsk (lg := lg) (tx1 := tx7) (by omega) (by omega) (by rw [← hlg.2.2]; exact hq71); rw [← hlg.2.2] at h; exact ⟨hK9, h.1, h.2⟩) | (have h := tak_i (I1 := I7) hMX hMI hsr0 hsk (lg := lg) (by omega) (by omega) (fun j x y => by rw [← hlg.2.2] at y ⊢; exact hq82 j x y); rw [← hlg.2.2] at h; exact ⟨hK9, h.1, h.2⟩))
      · refine lv_aload_n hx hb dMo_takeToken_26 rfl (lv_at hl 1 rfl) ?_
        refine va_get (D := (dC, dI)) (ci := 7) (v := .ref (mo + 11)) (C := "MacroReckonerModel") (T := TMo) (N := 23) hx hb hts inMo hown hK hP 0 rfl rfl 19 (by decide) (hts _ wt4_77) (fun _ h9 => h9) rfl dMo_takeToken_27 ?_
        refine lv_iload_n hx hb dMo_takeToken_30 rfl (lv_at hl 0 rfl) ?_
        refine lv_aload_n hx hb dMo_takeToken_31 rfl (lv_at hl 1 rfl) ?_
        refine va_get (D := (dC, dI)) (ci := 7) (v := .int (iI fm)) (C := "MacroReckonerModel") (T := TMo) (N := 23) hx hb hts inMo hown hK hP 0 rfl rfl 17 (by decide) (hts _ wt4_75) (fun _ h9 => h9) rfl dMo_takeToken_32 ?_
        refine iv_isub hx hb dMo_takeToken_35 ?_
        refine lv_aload_n hx hb dMo_takeToken_36 rfl (lv_at hl 1 rfl) ?_
        refine lv_iload_n hx hb dMo_takeToken_37 rfl (lv_at hl 0 rfl) ?_
        refine cv_i (va_runV (C := "MacroReckonerModel") (As := [.int (iI p9)]) (rest := [.int (iI (p9 - fm)), .ref (mo + 11)]) ⟨hx, hb, hml, hown, hts⟩ (cMo_at l dC dI dA mo ft lf hg kk tx pn tk fm tO ((tO - fm)) mI mT mS mC mL mB mF mU mX mP K9 mD mZ p9 (by omega) H.size) (cwV 1 hts (gdV wt4_149 wt4_151 ws3_9 wt1_8 wt4_152) rfl rfl rfl ⟨rfl, by decide, by decide, by decide +kernel⟩ ⟨by decide, by decide⟩) (preV (q := ("MacroReckonerModel", TMo, 23)) hK hP hD hS hA XN_ok trivial [0, 1, 2, 3, 4, 5, 6, 7, 8, 9, 10, 11, 12, 13] rfl rfl 0 rfl rfl) rfl rfl hl.1 rfl (lv_room (Nat.le_of_ble_eq_true rfl)) dMo_takeToken_38 ⟨Nat.zero_le _, Nat.zero_le _⟩) hP hD hS hA [0, 1, 2, 3, 4, 5, 6, 7, 8, 9, 10, 11, 12, 13] [] rfl (fun v_ => wMo dA mo ft lf hg kk tx pn tk fm tO (((tO - fm))) mI mT mS mC mL mB mF mU mX mP K9 mD mZ []) (fun _ => rfl) ([] : va_W) rfl (fun _ => rfl) [mo, mo + 1, mo + 2, mo + 3, mo + 4, mo + 5, mo + 6, mo + 7, mo + 8, mo + 9, mo + 10, mo + 11, mo + 12, mo + 13] rfl (fun _ => rfl) (fun _ => rfl) (fun r38 u_ H locs hq38 hP hD hS => ?_)
        have hP : va_P (dC, dI) vwCl (wMo dA mo ft lf hg kk tx pn tk fm tO (((tO - fm))) mI mT mS mC mL mB mF mU mX mP K9 mD mZ []) H := hP
        have hD : va_D A (wMo dA mo ft lf hg kk tx pn tk fm tO (((tO - fm))) mI mT mS mC mL mB mF mU mX mP K9 mD mZ []) := hD
        have hq38 : r38 = gS tx mX mI p9 := hq38
        refine iv_iast (v := r38) hx hb hK hP hD hS 11 0 rfl rfl (by decide) dMo_takeToken_41 (by omega) (by omega) (fun H locs hP hD hS => ?_)
        have hP : va_P (dC, dI) vwCl (wMo dA mo ft lf hg kk tx pn tk fm tO (((tO - fm))) mI mT mS mC mL mB mF mU mX mP (up K9 (p9 - fm) r38) mD mZ []) H := hP
        have hD : va_D A (wMo dA mo ft lf hg kk tx pn tk fm tO (((tO - fm))) mI mT mS mC mL mB mF mU mX mP (up K9 (p9 - fm) r38) mD mZ []) := hD
        refine lv_iinc (k := 0) (lv' := [(1, .int (iI (p9 + 1))), (0, .ref mo)]) (v := iI (p9 + 1)) hx hb dMo_takeToken_42 hl rfl (iI_add _ _).symm (by decide) rfl (fun ls hl => ?_)
        refine lv_goto (tgt := 18) hx hb dMo_takeToken_45 (by decide) ?_
        exact ih18 (up K9 (p9 - fm) r38) (p9 + 1) H locs ls (by omega) (by intro j x y; by_cases z : j = p9 - fm; rw [z, up_s, hq38]; congr 1; omega; rw [up_n z]; exact h0 j x (by omega)) (by omega) hP hD hS (lv_sub hl [0, 1] rfl)
  exact L18 _ mK fm H locs ls (by omega) (by intro j x y; omega) (Nat.lt_succ_self _) hP hD hS (lv_sub hl [0, 1] rfl)

theorem dMo_areNumbers_0 : decode prog_9_method_41_code 0 = .ok (.iconst 1, 1) := by decide +kernel
theorem dMo_areNumbers_1 : decode prog_9_method_41_code 1 = .ok (.istore_n 2, 1) := by decide +kernel
theorem dMo_areNumbers_2 : decode prog_9_method_41_code 2 = .ok (.iconst 0, 1) := by decide +kernel
theorem dMo_areNumbers_3 : decode prog_9_method_41_code 3 = .ok (.istore_n 3, 1) := by decide +kernel
theorem dMo_areNumbers_4 : decode prog_9_method_41_code 4 = .ok (.iload_n 3, 1) := by decide +kernel
theorem dMo_areNumbers_5 : decode prog_9_method_41_code 5 = .ok (.iload_n 1, 1) := by decide +kernel
theorem dMo_areNumbers_6 : decode prog_9_method_41_code 6 = .ok (.if_icmp .ge 36, 3) := by decide +kernel
theorem dMo_areNumbers_9 : decode prog_9_method_41_code 9 = .ok (.iload_n 2, 1) := by decide +kernel
theorem dMo_areNumbers_10 : decode prog_9_method_41_code 10 = .ok (.ifCond .eq 24, 3) := by decide +kernel
theorem dMo_areNumbers_13 : decode prog_9_method_41_code 13 = .ok (.aload_n 0, 1) := by decide +kernel
theorem dMo_areNumbers_14 : decode prog_9_method_41_code 14 = .ok (.getfield 13, 3) := by decide +kernel
theorem dMo_areNumbers_17 : decode prog_9_method_41_code 17 = .ok (.bipush 25, 2) := by decide +kernel
theorem dMo_areNumbers_19 : decode prog_9_method_41_code 19 = .ok (.aload_n 0, 1) := by decide +kernel
theorem dMo_areNumbers_20 : decode prog_9_method_41_code 20 = .ok (.getfield 83, 3) := by decide +kernel
theorem dMo_areNumbers_23 : decode prog_9_method_41_code 23 = .ok (.iadd, 1) := by decide +kernel
theorem dMo_areNumbers_24 : decode prog_9_method_41_code 24 = .ok (.iload_n 3, 1) := by decide +kernel
theorem dMo_areNumbers_25 : decode prog_9_method_41_code 25 = .ok (.isub, 1) := by decide +kernel
theorem dMo_areNumbers_26 : decode prog_9_method_41_code 26 = .ok (.baload, 1) := by decide +kernel
theorem dMo_areNumbers_27 : decode prog_9_method_41_code 27 = .ok (.ifCond .ne 7, 3) := by decide +kernel
theorem dMo_areNumbers_30 : decode prog_9_method_41_code 30 = .ok (.iconst 1, 1) := by decide +kernel
theorem dMo_areNumbers_31 : decode prog_9_method_41_code 31 = .ok (.goto 4, 3) := by decide +kernel
theorem dMo_areNumbers_34 : decode prog_9_method_41_code 34 = .ok (.iconst 0, 1) := by decide +kernel
theorem dMo_areNumbers_35 : decode prog_9_method_41_code 35 = .ok (.istore_n 2, 1) := by decide +kernel
theorem dMo_areNumbers_36 : decode prog_9_method_41_code 36 = .ok (.iinc 3 1, 3) := by decide +kernel
theorem dMo_areNumbers_39 : decode prog_9_method_41_code 39 = .ok (.goto (-35), 3) := by decide +kernel
theorem dMo_areNumbers_42 : decode prog_9_method_41_code 42 = .ok (.iload_n 2, 1) := by decide +kernel
theorem dMo_areNumbers_43 : decode prog_9_method_41_code 43 = .ok (.ireturn, 1) := by decide +kernel
abbrev qMo_areNumbers (dC : Nat → ClassId) (dI : Nat → Nat → Nat) (dA : Nat → ClassId) (mo : Nat) (ft : Int) (lf : Int) (hg : Int) (kk : Int) (tx : Int) (pn : Int) (tk : Int) (fm : Int) (tO : Int) (tl : Int) (mI : Int → Int) (mT : Int → Int) (mS : Int → Int) (mC : Int → Int) (mL : Int → Int) (mB : Int → Int) (mF : Int → Int) (mU : Int → Int) (mX : Int → Int) (mP : Int → Int) (mK : Int → Int) (mD : Int → Int) (mZ : Int → Int) (n0 : Int) (A : Nat → Prop) : Array Value → State → Outcome → State → Prop := QI (dC, dI) vwCl (tyA dA) (fun (r : Int) (v_ : Unit) => anR mT hg n0 r) (fun (v_ : Unit) => wMo dA mo ft lf hg kk tx pn tk fm tO tl mI mT mS mC mL mB mF mU mX mP mK mD mZ []) A
abbrev rmMo_areNumbers : Room := { frames := 0, cells := 0, slots := 0, locals := 0 }
set_option maxRecDepth 100000 in
set_option maxHeartbeats 1000000 in
theorem cMo_areNumbers (l : Launch) (dC : Nat → ClassId) (dI : Nat → Nat → Nat) (dA : Nat → ClassId) (mo : Nat) (ft : Int) (lf : Int) (hg : Int) (kk : Int) (tx : Int) (pn : Int) (tk : Int) (fm : Int) (tO : Int) (tl : Int) (mI : Int → Int) (mT : Int → Int) (mS : Int → Int) (mC : Int → Int) (mL : Int → Int) (mB : Int → Int) (mF : Int → Int) (mU : Int → Int) (mX : Int → Int) (mP : Int → Int) (mK : Int → Int) (mD : Int → Int) (mZ : Int → Int) (n0 : Int) (hn0 : 0 ≤ n0 ∧ n0 ≤ hg ∧ hg ≤ 20) (hbo : ∀ i, 0 ≤ i → i < 26 + hg → mT i = 0 ∨ mT i = 1) (sz : Nat) : Met l yMo_areNumbers wsMo_areNumbers rmMo_areNumbers (PC (dC, dI) vwCl (tyA dA) XN [.ref mo, .int (iI n0)] (wMo dA mo ft lf hg kk tx pn tk fm tO tl mI mT mS mC mL mB mF mU mX mP mK mD mZ []) sz) (qMo_areNumbers dC dI dA mo ft lf hg kk tx pn tk fm tO tl mI mT mS mC mL mB mF mU mX mP mK mD mZ n0 (va_A (wMo dA mo ft lf hg kk tx pn tk fm tO tl mI mT mS mC mL mB mF mU mX mP mK mD mZ []) sz)) 0 0 (va_A (wMo dA mo ft lf hg kk tx pn tk fm tO tl mI mT mS mC mL mB mF mU mX mP mK mD mZ []) sz) := by
  refine met_of (cc := prog_9_method_41_code) (maxL := 4) (ret := (some .boolean)) (Qc := qMo_areNumbers dC dI dA mo ft lf hg kk tx pn tk fm tO tl mI mT mS mC mL mB mF mU mX mP mK mD mZ n0) XN_ok (by decide) rfl (Nat.le_of_ble_eq_true rfl) ?_
  intro p e s m below meth c ls A hx hb hr hml hown hts hlocks hnm hK hP hD hA hX hS hl
  have hl : lv_has ls 4 [(0, .ref mo), (1, .int (iI n0))] := hl
  have hown : s.vm.findClass "MacroReckonerModel" = some m.cls := hown
  obtain ⟨H, hH⟩ : ∃ H : Heap, H = s.heap := ⟨_, rfl⟩
  obtain ⟨locs, hlo⟩ : ∃ L : List Loc, L = [] := ⟨_, rfl⟩
  have hP : va_P (dC, dI) vwCl (wMo dA mo ft lf hg kk tx pn tk fm tO tl mI mT mS mC mL mB mF mU mX mP mK mD mZ []) H := hH ▸ hP
  have hS : va_S A s.heap H locs := by rw [hH, hlo]; exact hS
  suffices hgo : W p l e rmMo_areNumbers s m [.ref mo, .int (iI n0)].toArray below meth c H locs 0 0 (MQ below (qMo_areNumbers dC dI dA mo ft lf hg kk tx pn tk fm tO tl mI mT mS mC mL mB mF mU mX mP mK mD mZ n0 A) [.ref mo, .int (iI n0)].toArray s 0 0 A) (F0 m 0 ls []) by rw [hH, hlo] at hgo; exact hgo
  clear hH hlo
  refine lv_iconst (v := iI 1) hx hb dMo_areNumbers_0 rfl ?_
  refine lv_istore_n (lv' := [(2, .int (iI 1)), (0, .ref mo), (1, .int (iI n0))]) hx hb dMo_areNumbers_1 rfl hl (by decide) rfl (fun ls hl => ?_)
  refine lv_iconst (v := iI 0) hx hb dMo_areNumbers_2 rfl ?_
  refine lv_istore_n (lv' := [(3, .int (iI 0)), (2, .int (iI 1)), (0, .ref mo), (1, .int (iI n0))]) hx hb dMo_areNumbers_3 rfl hl (by decide) rfl (fun ls hl => ?_)
  have L4 : ∀ (n : Nat) (al : Int) (j : Int) (H : Heap) (locs : List Loc) (ls : Array Slot), (0 ≤ j ∧ j ≤ n0) → ((al = 1 ∧ ∀ t, 0 ≤ t → t < j → mT (25 + hg - t) = 0) ∨ (al = 0 ∧ ∃ t, 0 ≤ t ∧ t < j ∧ mT (25 + hg - t) = 1)) → (n0 - j).toNat < n → va_P (dC, dI) vwCl (wMo dA mo ft lf hg kk tx pn tk fm tO tl mI mT mS mC mL mB mF mU mX mP mK mD mZ []) H → va_D A (wMo dA mo ft lf hg kk tx pn tk fm tO tl mI mT mS mC mL mB mF mU mX mP mK mD mZ []) → va_S A s.heap H locs → lv_has ls 4 [(3, .int (iI j)), (2, .int (iI al)), (0, .ref mo), (1, .int (iI n0))] → W p l e rmMo_areNumbers s m [.ref mo, .int (iI n0)].toArray below meth c H locs 0 0 (MQ below (qMo_areNumbers dC dI dA mo ft lf hg kk tx pn tk fm tO tl mI mT mS mC mL mB mF mU mX mP mK mD mZ n0 A) [.ref mo, .int (iI n0)].toArray s 0 0 A) (F0 m 4 ls []) := by
    intro n
    induction n with
    | zero => intro al j H locs ls hj hO hn; omega
    | succ n ih =>
      intro al j H locs ls hj hO hn hP hD hS hl
      have hal : al = 0 ∨ al = 1 := by rcases hO with ⟨z, -⟩ | ⟨z, -⟩ <;> omega
      have ih4 := ih
      refine lv_iload_n hx hb dMo_areNumbers_4 rfl (lv_at hl 0 rfl) ?_
      refine lv_iload_n hx hb dMo_areNumbers_5 rfl (lv_at hl 3 rfl) ?_
      refine iv_icmp_ge (tgt := 42) hx hb dMo_areNumbers_6 (by decide) ⟨by omega, by omega⟩ ⟨by omega, by omega⟩ (fun hc6 => ?_) (fun hc6 => ?_)
      · refine lv_iload_n hx hb dMo_areNumbers_42 rfl (lv_at hl 1 rfl) ?_
        exact rt_z hx hb hr hlocks hK hS dMo_areNumbers_43 (nrw_bool (by omega)) () hP hD (show anR mT hg n0 al from by rcases hO with ⟨z1, z2⟩ | ⟨z1, t, z2, z3, z4⟩; exact Or.inl ⟨z1, fun t x y => z2 t x (by omega)⟩; exact Or.inr ⟨z1, t, z2, by omega, z4⟩)
      · refine lv_iload_n hx hb dMo_areNumbers_9 rfl (lv_at hl 1 rfl) ?_
        refine iv_if_eq (tgt := 34) hx hb dMo_areNumbers_10 (by decide) ⟨by omega, by omega⟩ (fun hc10 => ?_) (fun hc10 => ?_)
        · refine lv_iconst (v := iI 0) hx hb dMo_areNumbers_34 rfl ?_
          refine lv_istore_n (lv' := [(2, .int (iI 0)), (3, .int (iI j)), (0, .ref mo), (1, .int (iI n0))]) hx hb dMo_areNumbers_35 rfl hl (by decide) rfl (fun ls hl => ?_)
          refine lv_iinc (k := 1) (lv' := [(3, .int (iI (j + 1))), (2, .int (iI 0)), (0, .ref mo), (1, .int (iI n0))]) (v := iI (j + 1)) hx hb dMo_areNumbers_36 hl rfl (iI_add _ _).symm (by decide) rfl (fun ls hl => ?_)
          refine lv_goto (tgt := 4) hx hb dMo_areNumbers_39 (by decide) ?_
          exact ih4 0 (j + 1) H locs ls (by omega) (by rcases hO with ⟨z1, z2⟩ | ⟨z1, t, z2, z3, z4⟩; (first | exact Or.inl ⟨rfl, fun t x y => by rcases (show t < j ∨ t = j by omega) with w | w; exact z2 t x w; rw [w]; omega⟩ | exact Or.inr ⟨rfl, j, by omega, by omega, by omega⟩ | omega); exact Or.inr ⟨by omega, t, z2, by omega, z4⟩) (by omega) hP hD hS (lv_sub hl [0, 1, 2, 3] rfl)
        · have hb9 := hbo (25 + hg - j) (by omega) (by omega)
          refine lv_aload_n hx hb dMo_areNumbers_13 rfl (lv_at hl 2 rfl) ?_
          refine va_get (D := (dC, dI)) (ci := 7) (v := .ref (mo + 2)) (C := "MacroReckonerModel") (T := TMo) (N := 23) hx hb hts inMo hown hK hP 0 rfl rfl 3 (by decide) (hts _ wt4_61) (fun _ h9 => h9) rfl dMo_areNumbers_14 ?_
          refine lv_bipush (v := iI 25) hx hb dMo_areNumbers_17 (by decide) ?_
          refine lv_aload_n hx hb dMo_areNumbers_19 rfl (lv_at hl 2 rfl) ?_
          refine va_get (D := (dC, dI)) (ci := 7) (v := .int (iI hg)) (C := "MacroReckonerModel") (T := TMo) (N := 23) hx hb hts inMo hown hK hP 0 rfl rfl 8 (by decide) (hts _ wt4_66) (fun _ h9 => h9) rfl dMo_areNumbers_20 ?_
          refine iv_iadd hx hb dMo_areNumbers_23 ?_
          refine lv_iload_n hx hb dMo_areNumbers_24 rfl (lv_at hl 0 rfl) ?_
          refine iv_isub hx hb dMo_areNumbers_25 ?_
          refine iv_zald hx hb hK hP 2 2 rfl rfl (by decide) dMo_areNumbers_26 (by omega) (by omega) ?_
          refine iv_if_ne (tgt := 34) hx hb dMo_areNumbers_27 (by decide) ⟨by omega, by omega⟩ (fun hc27 => ?_) (fun hc27 => ?_)
          · refine lv_iconst (v := iI 0) hx hb dMo_areNumbers_34 rfl ?_
            refine lv_istore_n (lv' := [(2, .int (iI 0)), (3, .int (iI j)), (0, .ref mo), (1, .int (iI n0))]) hx hb dMo_areNumbers_35 rfl hl (by decide) rfl (fun ls hl => ?_)
            refine lv_iinc (k := 1) (lv' := [(3, .int (iI (j + 1))), (2, .int (iI 0)), (0, .ref mo), (1, .int (iI n0))]) (v := iI (j + 1)) hx hb dMo_areNumbers_36 hl rfl (iI_add _ _).symm (by decide) rfl (fun ls hl => ?_)
            refine lv_goto (tgt := 4) hx hb dMo_areNumbers_39 (by decide) ?_
            exact ih4 0 (j + 1) H locs ls (by omega) (by rcases hO with ⟨z1, z2⟩ | ⟨z1, t, z2, z3, z4⟩; (first | exact Or.inl ⟨rfl, fun t x y => by rcases (show t < j ∨ t = j by omega) with w | w; exact z2 t x w; rw [w]; omega⟩ | exact Or.inr ⟨rfl, j, by omega, by omega, by omega⟩ | omega); exact Or.inr ⟨by omega, t, z2, by omega, z4⟩) (by omega) hP hD hS (lv_sub hl [0, 1, 2, 3] rfl)
          · refine lv_iconst (v := iI 1) hx hb dMo_areNumbers_30 rfl ?_
            refine lv_goto (tgt := 35) hx hb dMo_areNumbers_31 (by decide) ?_
            refine lv_istore_n (lv' := [(2, .int (iI 1)), (3, .int (iI j)), (0, .ref mo), (1, .int (iI n0))]) hx hb dMo_areNumbers_35 rfl hl (by decide) rfl (fun ls hl => ?_)
            refine lv_iinc (k := 1) (lv' := [(3, .int (iI (j + 1))), (2, .int (iI 1)), (0, .ref mo), (1, .int (iI n0))]) (v := iI (j + 1)) hx hb dMo_areNumbers_36 hl rfl (iI_add _ _).symm (by decide) rfl (fun ls hl => ?_)
            refine lv_goto (tgt := 4) hx hb dMo_areNumbers_39 (by decide) ?_
            exact ih4 1 (j + 1) H locs ls (by omega) (by rcases hO with ⟨z1, z2⟩ | ⟨z1, t, z2, z3, z4⟩; (first | exact Or.inl ⟨rfl, fun t x y => by rcases (show t < j ∨ t = j by omega) with w | w; exact z2 t x w; rw [w]; omega⟩ | exact Or.inr ⟨rfl, j, by omega, by omega, by omega⟩ | omega); exact Or.inr ⟨by omega, t, z2, by omega, z4⟩) (by omega) hP hD hS (lv_sub hl [0, 1, 2, 3] rfl)
  exact L4 _ 1 0 H locs ls (by omega) (by exact Or.inl ⟨rfl, fun t x y => by omega⟩) (Nat.lt_succ_self _) hP hD hS (lv_sub hl [0, 1, 2, 3] rfl)

theorem dMo_begin_0 : decode prog_9_method_42_code 0 = .ok (.iconst 0, 1) := by decide +kernel
theorem dMo_begin_1 : decode prog_9_method_42_code 1 = .ok (.istore_n 2, 1) := by decide +kernel
theorem dMo_begin_2 : decode prog_9_method_42_code 2 = .ok (.iconst 0, 1) := by decide +kernel
theorem dMo_begin_3 : decode prog_9_method_42_code 3 = .ok (.istore_n 3, 1) := by decide +kernel
theorem dMo_begin_4 : decode prog_9_method_42_code 4 = .ok (.iload_n 3, 1) := by decide +kernel
theorem dMo_begin_5 : decode prog_9_method_42_code 5 = .ok (.aload_n 0, 1) := by decide +kernel
theorem dMo_begin_6 : decode prog_9_method_42_code 6 = .ok (.getfield 23, 3) := by decide +kernel
theorem dMo_begin_9 : decode prog_9_method_42_code 9 = .ok (.iload_n 1, 1) := by decide +kernel
theorem dMo_begin_10 : decode prog_9_method_42_code 10 = .ok (.iaload, 1) := by decide +kernel
theorem dMo_begin_11 : decode prog_9_method_42_code 11 = .ok (.if_icmp .ge 35, 3) := by decide +kernel
theorem dMo_begin_14 : decode prog_9_method_42_code 14 = .ok (.iload_n 2, 1) := by decide +kernel
theorem dMo_begin_15 : decode prog_9_method_42_code 15 = .ok (.ifCond .ne 19, 3) := by decide +kernel
theorem dMo_begin_18 : decode prog_9_method_42_code 18 = .ok (.aload_n 0, 1) := by decide +kernel
theorem dMo_begin_19 : decode prog_9_method_42_code 19 = .ok (.getfield 26, 3) := by decide +kernel
theorem dMo_begin_22 : decode prog_9_method_42_code 22 = .ok (.bipush 60, 2) := by decide +kernel
theorem dMo_begin_24 : decode prog_9_method_42_code 24 = .ok (.iload_n 1, 1) := by decide +kernel
theorem dMo_begin_25 : decode prog_9_method_42_code 25 = .ok (.imul, 1) := by decide +kernel
theorem dMo_begin_26 : decode prog_9_method_42_code 26 = .ok (.iload_n 3, 1) := by decide +kernel
theorem dMo_begin_27 : decode prog_9_method_42_code 27 = .ok (.iadd, 1) := by decide +kernel
theorem dMo_begin_28 : decode prog_9_method_42_code 28 = .ok (.iaload, 1) := by decide +kernel
theorem dMo_begin_29 : decode prog_9_method_42_code 29 = .ok (.bipush 32, 2) := by decide +kernel
theorem dMo_begin_31 : decode prog_9_method_42_code 31 = .ok (.if_icmp .eq 7, 3) := by decide +kernel
theorem dMo_begin_34 : decode prog_9_method_42_code 34 = .ok (.iconst 1, 1) := by decide +kernel
theorem dMo_begin_35 : decode prog_9_method_42_code 35 = .ok (.goto 4, 3) := by decide +kernel
theorem dMo_begin_38 : decode prog_9_method_42_code 38 = .ok (.iconst 0, 1) := by decide +kernel
theorem dMo_begin_39 : decode prog_9_method_42_code 39 = .ok (.istore_n 2, 1) := by decide +kernel
theorem dMo_begin_40 : decode prog_9_method_42_code 40 = .ok (.iinc 3 1, 3) := by decide +kernel
theorem dMo_begin_43 : decode prog_9_method_42_code 43 = .ok (.goto (-39), 3) := by decide +kernel
theorem dMo_begin_46 : decode prog_9_method_42_code 46 = .ok (.aload_n 0, 1) := by decide +kernel
theorem dMo_begin_47 : decode prog_9_method_42_code 47 = .ok (.getfield 13, 3) := by decide +kernel
theorem dMo_begin_50 : decode prog_9_method_42_code 50 = .ok (.iload_n 1, 1) := by decide +kernel
theorem dMo_begin_51 : decode prog_9_method_42_code 51 = .ok (.baload, 1) := by decide +kernel
theorem dMo_begin_52 : decode prog_9_method_42_code 52 = .ok (.ifCond .eq 7, 3) := by decide +kernel
theorem dMo_begin_55 : decode prog_9_method_42_code 55 = .ok (.iload_n 2, 1) := by decide +kernel
theorem dMo_begin_56 : decode prog_9_method_42_code 56 = .ok (.ifCond .ne 5, 3) := by decide +kernel
theorem dMo_begin_59 : decode prog_9_method_42_code 59 = .ok (.iconst 0, 1) := by decide +kernel
theorem dMo_begin_60 : decode prog_9_method_42_code 60 = .ok (.ireturn, 1) := by decide +kernel
theorem dMo_begin_61 : decode prog_9_method_42_code 61 = .ok (.aload_n 0, 1) := by decide +kernel
theorem dMo_begin_62 : decode prog_9_method_42_code 62 = .ok (.getfield 120, 3) := by decide +kernel
theorem dMo_begin_65 : decode prog_9_method_42_code 65 = .ok (.bipush 8, 2) := by decide +kernel
theorem dMo_begin_67 : decode prog_9_method_42_code 67 = .ok (.if_icmp .ne 6, 3) := by decide +kernel
theorem dMo_begin_70 : decode prog_9_method_42_code 70 = .ok (.bipush (-9), 2) := by decide +kernel
theorem dMo_begin_72 : decode prog_9_method_42_code 72 = .ok (.ireturn, 1) := by decide +kernel
theorem dMo_begin_73 : decode prog_9_method_42_code 73 = .ok (.iconst 0, 1) := by decide +kernel
theorem dMo_begin_74 : decode prog_9_method_42_code 74 = .ok (.istore_n 3, 1) := by decide +kernel
theorem dMo_begin_75 : decode prog_9_method_42_code 75 = .ok (.iload_n 3, 1) := by decide +kernel
theorem dMo_begin_76 : decode prog_9_method_42_code 76 = .ok (.aload_n 0, 1) := by decide +kernel
theorem dMo_begin_77 : decode prog_9_method_42_code 77 = .ok (.getfield 23, 3) := by decide +kernel
theorem dMo_begin_80 : decode prog_9_method_42_code 80 = .ok (.iload_n 1, 1) := by decide +kernel
theorem dMo_begin_81 : decode prog_9_method_42_code 81 = .ok (.iaload, 1) := by decide +kernel
theorem dMo_begin_82 : decode prog_9_method_42_code 82 = .ok (.if_icmp .ge 34, 3) := by decide +kernel
theorem dMo_begin_85 : decode prog_9_method_42_code 85 = .ok (.aload_n 0, 1) := by decide +kernel
theorem dMo_begin_86 : decode prog_9_method_42_code 86 = .ok (.getfield 35, 3) := by decide +kernel
theorem dMo_begin_89 : decode prog_9_method_42_code 89 = .ok (.bipush 60, 2) := by decide +kernel
theorem dMo_begin_91 : decode prog_9_method_42_code 91 = .ok (.aload_n 0, 1) := by decide +kernel
theorem dMo_begin_92 : decode prog_9_method_42_code 92 = .ok (.getfield 120, 3) := by decide +kernel
theorem dMo_begin_95 : decode prog_9_method_42_code 95 = .ok (.imul, 1) := by decide +kernel
theorem dMo_begin_96 : decode prog_9_method_42_code 96 = .ok (.iload_n 3, 1) := by decide +kernel
theorem dMo_begin_97 : decode prog_9_method_42_code 97 = .ok (.iadd, 1) := by decide +kernel
theorem dMo_begin_98 : decode prog_9_method_42_code 98 = .ok (.aload_n 0, 1) := by decide +kernel
theorem dMo_begin_99 : decode prog_9_method_42_code 99 = .ok (.getfield 26, 3) := by decide +kernel
theorem dMo_begin_102 : decode prog_9_method_42_code 102 = .ok (.bipush 60, 2) := by decide +kernel
theorem dMo_begin_104 : decode prog_9_method_42_code 104 = .ok (.iload_n 1, 1) := by decide +kernel
theorem dMo_begin_105 : decode prog_9_method_42_code 105 = .ok (.imul, 1) := by decide +kernel
theorem dMo_begin_106 : decode prog_9_method_42_code 106 = .ok (.iload_n 3, 1) := by decide +kernel
theorem dMo_begin_107 : decode prog_9_method_42_code 107 = .ok (.iadd, 1) := by decide +kernel
theorem dMo_begin_108 : decode prog_9_method_42_code 108 = .ok (.iaload, 1) := by decide +kernel
theorem dMo_begin_109 : decode prog_9_method_42_code 109 = .ok (.iastore, 1) := by decide +kernel
theorem dMo_begin_110 : decode prog_9_method_42_code 110 = .ok (.iinc 3 1, 3) := by decide +kernel
theorem dMo_begin_113 : decode prog_9_method_42_code 113 = .ok (.goto (-38), 3) := by decide +kernel
theorem dMo_begin_116 : decode prog_9_method_42_code 116 = .ok (.aload_n 0, 1) := by decide +kernel
theorem dMo_begin_117 : decode prog_9_method_42_code 117 = .ok (.getfield 29, 3) := by decide +kernel
theorem dMo_begin_120 : decode prog_9_method_42_code 120 = .ok (.aload_n 0, 1) := by decide +kernel
theorem dMo_begin_121 : decode prog_9_method_42_code 121 = .ok (.getfield 120, 3) := by decide +kernel
theorem dMo_begin_124 : decode prog_9_method_42_code 124 = .ok (.iconst 0, 1) := by decide +kernel
theorem dMo_begin_125 : decode prog_9_method_42_code 125 = .ok (.iastore, 1) := by decide +kernel
theorem dMo_begin_126 : decode prog_9_method_42_code 126 = .ok (.aload_n 0, 1) := by decide +kernel
theorem dMo_begin_127 : decode prog_9_method_42_code 127 = .ok (.getfield 32, 3) := by decide +kernel
theorem dMo_begin_130 : decode prog_9_method_42_code 130 = .ok (.aload_n 0, 1) := by decide +kernel
theorem dMo_begin_131 : decode prog_9_method_42_code 131 = .ok (.getfield 120, 3) := by decide +kernel
theorem dMo_begin_134 : decode prog_9_method_42_code 134 = .ok (.aload_n 0, 1) := by decide +kernel
theorem dMo_begin_135 : decode prog_9_method_42_code 135 = .ok (.getfield 23, 3) := by decide +kernel
theorem dMo_begin_138 : decode prog_9_method_42_code 138 = .ok (.iload_n 1, 1) := by decide +kernel
theorem dMo_begin_139 : decode prog_9_method_42_code 139 = .ok (.iaload, 1) := by decide +kernel
theorem dMo_begin_140 : decode prog_9_method_42_code 140 = .ok (.iastore, 1) := by decide +kernel
theorem dMo_begin_141 : decode prog_9_method_42_code 141 = .ok (.aload_n 0, 1) := by decide +kernel
theorem dMo_begin_142 : decode prog_9_method_42_code 142 = .ok (.dup, 1) := by decide +kernel
theorem dMo_begin_143 : decode prog_9_method_42_code 143 = .ok (.getfield 120, 3) := by decide +kernel
theorem dMo_begin_146 : decode prog_9_method_42_code 146 = .ok (.iconst 1, 1) := by decide +kernel
theorem dMo_begin_147 : decode prog_9_method_42_code 147 = .ok (.iadd, 1) := by decide +kernel
theorem dMo_begin_148 : decode prog_9_method_42_code 148 = .ok (.putfield 120, 3) := by decide +kernel
theorem dMo_begin_151 : decode prog_9_method_42_code 151 = .ok (.iconst 0, 1) := by decide +kernel
theorem dMo_begin_152 : decode prog_9_method_42_code 152 = .ok (.ireturn, 1) := by decide +kernel
abbrev qMo_begin (dC : Nat → ClassId) (dI : Nat → Nat → Nat) (dA : Nat → ClassId) (mo : Nat) (ft : Int) (lf : Int) (hg : Int) (kk : Int) (tx : Int) (pn : Int) (tk : Int) (fm : Int) (tO : Int) (tl : Int) (mI : Int → Int) (mT : Int → Int) (mS : Int → Int) (mC : Int → Int) (mL : Int → Int) (mB : Int → Int) (mF : Int → Int) (mU : Int → Int) (mX : Int → Int) (mP : Int → Int) (mK : Int → Int) (mD : Int → Int) (mZ : Int → Int) (x : Int) (xa : Th) (st : AS) (A : Nat → Prop) : Array Value → State → Outcome → State → Prop := QI (dC, dI) vwCl (tyA dA) (fun (r : Int) (v_ : (Int → Int) × (Int → Int) × (Int → Int) × Int) => r = (begA st xa).1 ∧ MX v_.1 v_.2.1 v_.2.2.1 v_.2.2.2 (begA st xa).2) (fun (v_ : (Int → Int) × (Int → Int) × (Int → Int) × Int) => wMo dA mo ft lf hg kk v_.2.2.2 pn tk fm tO tl mI mT mS mC mL mB v_.1 v_.2.1 v_.2.2.1 mP mK mD mZ []) A
abbrev rmMo_begin : Room := { frames := 0, cells := 0, slots := 0, locals := 0 }
set_option maxRecDepth 100000 in
set_option maxHeartbeats 1000000 in
theorem cMo_begin (l : Launch) (dC : Nat → ClassId) (dI : Nat → Nat → Nat) (dA : Nat → ClassId) (mo : Nat) (ft : Int) (lf : Int) (hg : Int) (kk : Int) (tx : Int) (pn : Int) (tk : Int) (fm : Int) (tO : Int) (tl : Int) (mI : Int → Int) (mT : Int → Int) (mS : Int → Int) (mC : Int → Int) (mL : Int → Int) (mB : Int → Int) (mF : Int → Int) (mU : Int → Int) (mX : Int → Int) (mP : Int → Int) (mK : Int → Int) (mD : Int → Int) (mZ : Int → Int) (x : Int) (xa : Th) (st : AS) (hxy : 0 ≤ x ∧ x ≤ 46) (hTa : MT mT mS mC mL mB x xa) (hMX : MX mF mU mX tx st) (sz : Nat) : Met l yMo_begin wsMo_begin rmMo_begin (PC (dC, dI) vwCl (tyA dA) XN [.ref mo, .int (iI x)] (wMo dA mo ft lf hg kk tx pn tk fm tO tl mI mT mS mC mL mB mF mU mX mP mK mD mZ []) sz) (qMo_begin dC dI dA mo ft lf hg kk tx pn tk fm tO tl mI mT mS mC mL mB mF mU mX mP mK mD mZ x xa st (va_A (wMo dA mo ft lf hg kk tx pn tk fm tO tl mI mT mS mC mL mB mF mU mX mP mK mD mZ []) sz)) 0 0 (va_A (wMo dA mo ft lf hg kk tx pn tk fm tO tl mI mT mS mC mL mB mF mU mX mP mK mD mZ []) sz) := by
  refine met_of (cc := prog_9_method_42_code) (maxL := 4) (ret := (some .int)) (Qc := qMo_begin dC dI dA mo ft lf hg kk tx pn tk fm tO tl mI mT mS mC mL mB mF mU mX mP mK mD mZ x xa st) XN_ok (by decide) rfl (Nat.le_of_ble_eq_true rfl) ?_
  intro p e s m below meth c ls A hx hb hr hml hown hts hlocks hnm hK hP hD hA hX hS hl
  have hl : lv_has ls 4 [(0, .ref mo), (1, .int (iI x))] := hl
  have hown : s.vm.findClass "MacroReckonerModel" = some m.cls := hown
  obtain ⟨H, hH⟩ : ∃ H : Heap, H = s.heap := ⟨_, rfl⟩
  obtain ⟨locs, hlo⟩ : ∃ L : List Loc, L = [] := ⟨_, rfl⟩
  have hP : va_P (dC, dI) vwCl (wMo dA mo ft lf hg kk tx pn tk fm tO tl mI mT mS mC mL mB mF mU mX mP mK mD mZ []) H := hH ▸ hP
  have hS : va_S A s.heap H locs := by rw [hH, hlo]; exact hS
  suffices hgo : W p l e rmMo_begin s m [.ref mo, .int (iI x)].toArray below meth c H locs 0 0 (MQ below (qMo_begin dC dI dA mo ft lf hg kk tx pn tk fm tO tl mI mT mS mC mL mB mF mU mX mP mK mD mZ x xa st A) [.ref mo, .int (iI x)].toArray s 0 0 A) (F0 m 0 ls []) by rw [hH, hlo] at hgo; exact hgo
  clear hH hlo
  have hbx := MT_b hTa
  have hx1 := hMX.1
  refine lv_iconst (v := iI 0) hx hb dMo_begin_0 rfl ?_
  refine lv_istore_n (lv' := [(2, .int (iI 0)), (0, .ref mo), (1, .int (iI x))]) hx hb dMo_begin_1 rfl hl (by decide) rfl (fun ls hl => ?_)
  refine lv_iconst (v := iI 0) hx hb dMo_begin_2 rfl ?_
  refine lv_istore_n (lv' := [(3, .int (iI 0)), (2, .int (iI 0)), (0, .ref mo), (1, .int (iI x))]) hx hb dMo_begin_3 rfl hl (by decide) rfl (fun ls hl => ?_)
  have L4 : ∀ (n : Nat) (so : Int) (j : Int) (H : Heap) (locs : List Loc) (ls : Array Slot), (0 ≤ j ∧ j ≤ mL x) → ((so = 0 ∧ ∀ t, 0 ≤ t → t < j → mB (60 * x + t) = 32) ∨ (so = 1 ∧ ∃ t, 0 ≤ t ∧ t < j ∧ mB (60 * x + t) ≠ 32)) → (mL x - j).toNat < n → va_P (dC, dI) vwCl (wMo dA mo ft lf hg kk tx pn tk fm tO tl mI mT mS mC mL mB mF mU mX mP mK mD mZ []) H → va_D A (wMo dA mo ft lf hg kk tx pn tk fm tO tl mI mT mS mC mL mB mF mU mX mP mK mD mZ []) → va_S A s.heap H locs → lv_has ls 4 [(3, .int (iI j)), (2, .int (iI so)), (0, .ref mo), (1, .int (iI x))] → W p l e rmMo_begin s m [.ref mo, .int (iI x)].toArray below meth c H locs 0 0 (MQ below (qMo_begin dC dI dA mo ft lf hg kk tx pn tk fm tO tl mI mT mS mC mL mB mF mU mX mP mK mD mZ x xa st A) [.ref mo, .int (iI x)].toArray s 0 0 A) (F0 m 4 ls []) := by
    intro n
    induction n with
    | zero => intro so j H locs ls hj hO hn; omega
    | succ n ih =>
      intro so j H locs ls hj hO hn hP hD hS hl
      have hal : so = 0 ∨ so = 1 := by rcases hO with ⟨z, -⟩ | ⟨z, -⟩ <;> omega
      have ih4 := ih
      refine lv_iload_n hx hb dMo_begin_4 rfl (lv_at hl 0 rfl) ?_
      refine lv_aload_n hx hb dMo_begin_5 rfl (lv_at hl 2 rfl) ?_
      refine va_get (D := (dC, dI)) (ci := 7) (v := .ref (mo + 5)) (C := "MacroReckonerModel") (T := TMo) (N := 23) hx hb hts inMo hown hK hP 0 rfl rfl 6 (by decide) (hts _ wt4_64) (fun _ h9 => h9) rfl dMo_begin_6 ?_
      refine lv_iload_n hx hb dMo_begin_9 rfl (lv_at hl 3 rfl) ?_
      refine iv_iald hx hb hK hP 5 0 rfl rfl (by decide) dMo_begin_10 (by omega) (by omega) ?_
      refine iv_icmp_ge (tgt := 46) hx hb dMo_begin_11 (by decide) ⟨by omega, by omega⟩ ⟨by omega, by omega⟩ (fun hc11 => ?_) (fun hc11 => ?_)
      · refine lv_aload_n hx hb dMo_begin_46 rfl (lv_at hl 2 rfl) ?_
        refine va_get (D := (dC, dI)) (ci := 7) (v := .ref (mo + 2)) (C := "MacroReckonerModel") (T := TMo) (N := 23) hx hb hts inMo hown hK hP 0 rfl rfl 3 (by decide) (hts _ wt4_61) (fun _ h9 => h9) rfl dMo_begin_47 ?_
        refine lv_iload_n hx hb dMo_begin_50 rfl (lv_at hl 3 rfl) ?_
        refine iv_zald hx hb hK hP 2 2 rfl rfl (by decide) dMo_begin_51 (by omega) (by omega) ?_
        refine iv_if_eq (tgt := 59) hx hb dMo_begin_52 (by decide) ⟨by omega, by omega⟩ (fun hc52 => ?_) (fun hc52 => ?_)
        · refine lv_iconst (v := iI 0) hx hb dMo_begin_59 rfl ?_
          exact rt_i hx hb hr hlocks hK hS dMo_begin_60 (mF, mU, mX, tx) hP hD (show 0 = (begA st xa).1 ∧ MX mF mU mX tx (begA st xa).2 from by rw [beg_0 (st := st) hTa (by rcases hO with ⟨z1, z2⟩ | ⟨z1, z2⟩; (first | exact Or.inl (by omega) | exact Or.inr (fun t x y => z2 t x (by omega))); (first | exact Or.inl (by omega) | omega))]; exact ⟨rfl, hMX⟩)
        · refine lv_iload_n hx hb dMo_begin_55 rfl (lv_at hl 1 rfl) ?_
          refine iv_if_ne (tgt := 61) hx hb dMo_begin_56 (by decide) ⟨by omega, by omega⟩ (fun hc56 => ?_) (fun hc56 => ?_)
          · have hbn := beg_n hTa (by omega) (by rcases hO with ⟨z1, z2⟩ | ⟨z1, t, z2, z3, z4⟩; omega; exact ⟨t, z2, by omega, z4⟩)
            refine lv_aload_n hx hb dMo_begin_61 rfl (lv_at hl 2 rfl) ?_
            refine va_get (D := (dC, dI)) (ci := 7) (v := .int (iI tx)) (C := "MacroReckonerModel") (T := TMo) (N := 23) hx hb hts inMo hown hK hP 0 rfl rfl 10 (by decide) (hts _ wt4_68) (fun _ h9 => h9) rfl dMo_begin_62 ?_
            refine lv_bipush (v := iI 8) hx hb dMo_begin_65 (by decide) ?_
            refine iv_icmp_ne (tgt := 73) hx hb dMo_begin_67 (by decide) ⟨by omega, by omega⟩ ⟨by decide, by decide⟩ (fun hc67 => ?_) (fun hc67 => ?_)
            · refine lv_iconst (v := iI 0) hx hb dMo_begin_73 rfl ?_
              refine lv_istore_n (lv' := [(3, .int (iI 0)), (2, .int (iI so)), (0, .ref mo), (1, .int (iI x))]) hx hb dMo_begin_74 rfl hl (by decide) rfl (fun ls hl => ?_)
              have L75 : ∀ (n : Nat) (X9 : Int → Int) (j8 : Int) (H : Heap) (locs : List Loc) (ls : Array Slot), (0 ≤ j8 ∧ j8 ≤ mL x) → (∀ t, 0 ≤ t → t < j8 → X9 (60 * tx + t) = mB (60 * x + t)) → (∀ p, p < 60 * tx ∨ 60 * tx + 60 ≤ p → X9 p = mX p) → (mL x - j8).toNat < n → va_P (dC, dI) vwCl (wMo dA mo ft lf hg kk tx pn tk fm tO tl mI mT mS mC mL mB mF mU X9 mP mK mD mZ []) H → va_D A (wMo dA mo ft lf hg kk tx pn tk fm tO tl mI mT mS mC mL mB mF mU X9 mP mK mD mZ []) → va_S A s.heap H locs → lv_has ls 4 [(3, .int (iI j8)), (2, .int (iI so)), (0, .ref mo), (1, .int (iI x))] → W p l e rmMo_begin s m [.ref mo, .int (iI x)].toArray below meth c H locs 0 0 (MQ below (qMo_begin dC dI dA mo ft lf hg kk tx pn tk fm tO tl mI mT mS mC mL mB mF mU mX mP mK mD mZ x xa st A) [.ref mo, .int (iI x)].toArray s 0 0 A) (F0 m 75 ls []) := by
                intro n
                induction n with
                | zero => intro X9 j8 H locs ls hj8 h0 ho hn; omega
                | succ n ih =>
                  intro X9 j8 H locs ls hj8 h0 ho hn hP hD hS hl
                  have ih75 := ih
                  refine lv_iload_n hx hb dMo_begin_75 rfl (lv_at hl 0 rfl) ?_
                  refine lv_aload_n hx hb dMo_begin_76 rfl (lv_at hl 2 rfl) ?_
                  refine va_get (D := (dC, dI)) (ci := 7) (v := .ref (mo + 5)) (C := "MacroReckonerModel") (T := TMo) (N := 23) hx hb hts inMo hown hK hP 0 rfl rfl 6 (by decide) (hts _ wt4_64) (fun _ h9 => h9) rfl dMo_begin_77 ?_
                  refine lv_iload_n hx hb dMo_begin_80 rfl (lv_at hl 3 rfl) ?_
                  refine iv_iald hx hb hK hP 5 0 rfl rfl (by decide) dMo_begin_81 (by omega) (by omega) ?_
                  refine iv_icmp_ge (tgt := 116) hx hb dMo_begin_82 (by decide) ⟨by omega, by omega⟩ ⟨by omega, by omega⟩ (fun hc82 => ?_) (fun hc82 => ?_)
                  · refine lv_aload_n hx hb dMo_begin_116 rfl (lv_at hl 2 rfl) ?_
                    refine va_get (D := (dC, dI)) (ci := 7) (v := .ref (mo + 7)) (C := "MacroReckonerModel") (T := TMo) (N := 23) hx hb hts inMo hown hK hP 0 rfl rfl 11 (by decide) (hts _ wt4_69) (fun _ h9 => h9) rfl dMo_begin_117 ?_
                    refine lv_aload_n hx hb dMo_begin_120 rfl (lv_at hl 2 rfl) ?_
                    refine va_get (D := (dC, dI)) (ci := 7) (v := .int (iI tx)) (C := "MacroReckonerModel") (T := TMo) (N := 23) hx hb hts inMo hown hK hP 0 rfl rfl 10 (by decide) (hts _ wt4_68) (fun _ h9 => h9) rfl dMo_begin_121 ?_
                    refine lv_iconst (v := iI 0) hx hb dMo_begin_124 rfl ?_
                    refine iv_iast (v := 0) hx hb hK hP hD hS 7 0 rfl rfl (by decide) dMo_begin_125 (by omega) (by omega) (fun H locs hP hD hS => ?_)
                    have hP : va_P (dC, dI) vwCl (wMo dA mo ft lf hg kk tx pn tk fm tO tl mI mT mS mC mL mB (up mF tx 0) mU X9 mP mK mD mZ []) H := hP
                    have hD : va_D A (wMo dA mo ft lf hg kk tx pn tk fm tO tl mI mT mS mC mL mB (up mF tx 0) mU X9 mP mK mD mZ []) := hD
                    refine lv_aload_n hx hb dMo_begin_126 rfl (lv_at hl 2 rfl) ?_
                    refine va_get (D := (dC, dI)) (ci := 7) (v := .ref (mo + 8)) (C := "MacroReckonerModel") (T := TMo) (N := 23) hx hb hts inMo hown hK hP 0 rfl rfl 12 (by decide) (hts _ wt4_70) (fun _ h9 => h9) rfl dMo_begin_127 ?_
                    refine lv_aload_n hx hb dMo_begin_130 rfl (lv_at hl 2 rfl) ?_
                    refine va_get (D := (dC, dI)) (ci := 7) (v := .int (iI tx)) (C := "MacroReckonerModel") (T := TMo) (N := 23) hx hb hts inMo hown hK hP 0 rfl rfl 10 (by decide) (hts _ wt4_68) (fun _ h9 => h9) rfl dMo_begin_131 ?_
                    refine lv_aload_n hx hb dMo_begin_134 rfl (lv_at hl 2 rfl) ?_
                    refine va_get (D := (dC, dI)) (ci := 7) (v := .ref (mo + 5)) (C := "MacroReckonerModel") (T := TMo) (N := 23) hx hb hts inMo hown hK hP 0 rfl rfl 6 (by decide) (hts _ wt4_64) (fun _ h9 => h9) rfl dMo_begin_135 ?_
                    refine lv_iload_n hx hb dMo_begin_138 rfl (lv_at hl 3 rfl) ?_
                    refine iv_iald hx hb hK hP 5 0 rfl rfl (by decide) dMo_begin_139 (by omega) (by omega) ?_
                    refine iv_iast (v := mL x) hx hb hK hP hD hS 8 0 rfl rfl (by decide) dMo_begin_140 (by omega) (by omega) (fun H locs hP hD hS => ?_)
                    have hP : va_P (dC, dI) vwCl (wMo dA mo ft lf hg kk tx pn tk fm tO tl mI mT mS mC mL mB (up mF tx 0) (up mU tx (mL x)) X9 mP mK mD mZ []) H := hP
                    have hD : va_D A (wMo dA mo ft lf hg kk tx pn tk fm tO tl mI mT mS mC mL mB (up mF tx 0) (up mU tx (mL x)) X9 mP mK mD mZ []) := hD
                    refine lv_aload_n hx hb dMo_begin_141 rfl (lv_at hl 2 rfl) ?_
                    refine lv_dup hx hb dMo_begin_142 rfl ?_
                    refine va_get (D := (dC, dI)) (ci := 7) (v := .int (iI tx)) (C := "MacroReckonerModel") (T := TMo) (N := 23) hx hb hts inMo hown hK hP 0 rfl rfl 10 (by decide) (hts _ wt4_68) (fun _ h9 => h9) rfl dMo_begin_143 ?_
                    refine lv_iconst (v := iI 1) hx hb dMo_begin_146 rfl ?_
                    refine iv_iadd hx hb dMo_begin_147 ?_
                    refine va_put (D := (dC, dI)) (ci := 7) (v := .int (iI (tx + 1))) (ty := .int) (C := "MacroReckonerModel") (T := TMo) (N := 23) hx hb hts inMo tyMo tyMo_ok nmMo hown hK hP hD hS 0 rfl rfl 10 (by decide) (hts _ wt4_68) (fun _ h9 => h9) rfl (by decide +kernel) rfl rfl (Nat.le_of_ble_eq_true rfl) dMo_begin_148 (fun H locs hP hD hS => ?_)
                    have hP : va_P (dC, dI) vwCl (wMo dA mo ft lf hg kk (tx + 1) pn tk fm tO tl mI mT mS mC mL mB (up mF tx 0) (up mU tx (mL x)) X9 mP mK mD mZ []) H := hP
                    have hD : va_D A (wMo dA mo ft lf hg kk (tx + 1) pn tk fm tO tl mI mT mS mC mL mB (up mF tx 0) (up mU tx (mL x)) X9 mP mK mD mZ []) := hD
                    refine lv_iconst (v := iI 0) hx hb dMo_begin_151 rfl ?_
                    exact rt_i hx hb hr hlocks hK hS dMo_begin_152 (up mF tx 0, up mU tx (mL x), X9, tx + 1) hP hD (show 0 = (begA st xa).1 ∧ MX (up mF tx 0) (up mU tx (mL x)) X9 (tx + 1) (begA st xa).2 from by have h := beg_e hTa hbn hMX (by omega) (fun t x y => h0 t x (by omega)) ho; exact ⟨h.1.symm, h.2⟩)
                  · have hr8 := MT_r hTa (show 0 ≤ j8 by omega) (by omega)
                    refine lv_aload_n hx hb dMo_begin_85 rfl (lv_at hl 2 rfl) ?_
                    refine va_get (D := (dC, dI)) (ci := 7) (v := .ref (mo + 9)) (C := "MacroReckonerModel") (T := TMo) (N := 23) hx hb hts inMo hown hK hP 0 rfl rfl 13 (by decide) (hts _ wt4_71) (fun _ h9 => h9) rfl dMo_begin_86 ?_
                    refine lv_bipush (v := iI 60) hx hb dMo_begin_89 (by decide) ?_
                    refine lv_aload_n hx hb dMo_begin_91 rfl (lv_at hl 2 rfl) ?_
                    refine va_get (D := (dC, dI)) (ci := 7) (v := .int (iI tx)) (C := "MacroReckonerModel") (T := TMo) (N := 23) hx hb hts inMo hown hK hP 0 rfl rfl 10 (by decide) (hts _ wt4_68) (fun _ h9 => h9) rfl dMo_begin_92 ?_
                    refine iv_imul hx hb dMo_begin_95 ?_
                    refine lv_iload_n hx hb dMo_begin_96 rfl (lv_at hl 0 rfl) ?_
                    refine iv_iadd hx hb dMo_begin_97 ?_
                    refine lv_aload_n hx hb dMo_begin_98 rfl (lv_at hl 2 rfl) ?_
                    refine va_get (D := (dC, dI)) (ci := 7) (v := .ref (mo + 6)) (C := "MacroReckonerModel") (T := TMo) (N := 23) hx hb hts inMo hown hK hP 0 rfl rfl 7 (by decide) (hts _ wt4_65) (fun _ h9 => h9) rfl dMo_begin_99 ?_
                    refine lv_bipush (v := iI 60) hx hb dMo_begin_102 (by decide) ?_
                    refine lv_iload_n hx hb dMo_begin_104 rfl (lv_at hl 3 rfl) ?_
                    refine iv_imul hx hb dMo_begin_105 ?_
                    refine lv_iload_n hx hb dMo_begin_106 rfl (lv_at hl 0 rfl) ?_
                    refine iv_iadd hx hb dMo_begin_107 ?_
                    refine iv_iald hx hb hK hP 6 0 rfl rfl (by decide) dMo_begin_108 (by omega) (by omega) ?_
                    refine iv_iast (v := mB ((60 * x) + j8)) hx hb hK hP hD hS 9 0 rfl rfl (by decide) dMo_begin_109 (by omega) (by omega) (fun H locs hP hD hS => ?_)
                    have hP : va_P (dC, dI) vwCl (wMo dA mo ft lf hg kk tx pn tk fm tO tl mI mT mS mC mL mB mF mU (up X9 ((60 * tx) + j8) (mB ((60 * x) + j8))) mP mK mD mZ []) H := hP
                    have hD : va_D A (wMo dA mo ft lf hg kk tx pn tk fm tO tl mI mT mS mC mL mB mF mU (up X9 ((60 * tx) + j8) (mB ((60 * x) + j8))) mP mK mD mZ []) := hD
                    refine lv_iinc (k := 0) (lv' := [(3, .int (iI (j8 + 1))), (2, .int (iI so)), (0, .ref mo), (1, .int (iI x))]) (v := iI (j8 + 1)) hx hb dMo_begin_110 hl rfl (iI_add _ _).symm (by decide) rfl (fun ls hl => ?_)
                    refine lv_goto (tgt := 75) hx hb dMo_begin_113 (by decide) ?_
                    exact ih75 (up X9 ((60 * tx) + j8) (mB ((60 * x) + j8))) (j8 + 1) H locs ls (by omega) (by intro t x y; by_cases z : t = j8; rw [z, up_s]; rw [up_n (by omega)]; exact h0 t x (by omega)) (by intro p x; rw [up_n (by omega)]; exact ho p x) (by omega) hP hD hS (lv_sub hl [0, 1, 2, 3] rfl)
              exact L75 _ mX 0 H locs ls (by omega) (by intro t x y; omega) (by intro p _; rfl) (Nat.lt_succ_self _) hP hD hS (lv_sub hl [0, 1, 2, 3] rfl)
            · refine lv_bipush (v := iI (-9)) hx hb dMo_begin_70 (by decide) ?_
              exact rt_i hx hb hr hlocks hK hS dMo_begin_72 (mF, mU, mX, tx) hP hD (show (-9) = (begA st xa).1 ∧ MX mF mU mX tx (begA st xa).2 from by rw [beg_9 hbn (by omega)]; exact ⟨rfl, hMX⟩)
          · refine lv_iconst (v := iI 0) hx hb dMo_begin_59 rfl ?_
            exact rt_i hx hb hr hlocks hK hS dMo_begin_60 (mF, mU, mX, tx) hP hD (show 0 = (begA st xa).1 ∧ MX mF mU mX tx (begA st xa).2 from by rw [beg_0 (st := st) hTa (by rcases hO with ⟨z1, z2⟩ | ⟨z1, z2⟩; (first | exact Or.inl (by omega) | exact Or.inr (fun t x y => z2 t x (by omega))); (first | exact Or.inl (by omega) | omega))]; exact ⟨rfl, hMX⟩)
      · refine lv_iload_n hx hb dMo_begin_14 rfl (lv_at hl 1 rfl) ?_
        refine iv_if_ne (tgt := 34) hx hb dMo_begin_15 (by decide) ⟨by omega, by omega⟩ (fun hc15 => ?_) (fun hc15 => ?_)
        · refine lv_iconst (v := iI 1) hx hb dMo_begin_34 rfl ?_
          refine lv_goto (tgt := 39) hx hb dMo_begin_35 (by decide) ?_
          refine lv_istore_n (lv' := [(2, .int (iI 1)), (3, .int (iI j)), (0, .ref mo), (1, .int (iI x))]) hx hb dMo_begin_39 rfl hl (by decide) rfl (fun ls hl => ?_)
          refine lv_iinc (k := 1) (lv' := [(3, .int (iI (j + 1))), (2, .int (iI 1)), (0, .ref mo), (1, .int (iI x))]) (v := iI (j + 1)) hx hb dMo_begin_40 hl rfl (iI_add _ _).symm (by decide) rfl (fun ls hl => ?_)
          refine lv_goto (tgt := 4) hx hb dMo_begin_43 (by decide) ?_
          exact ih4 1 (j + 1) H locs ls (by omega) (by rcases hO with ⟨z1, z2⟩ | ⟨z1, t, z2, z3, z4⟩; (first | exact Or.inl ⟨rfl, fun t x y => by rcases (show t < j ∨ t = j by omega) with w | w; exact z2 t x w; rw [w]; omega⟩ | exact Or.inr ⟨rfl, j, by omega, by omega, by omega⟩ | omega); exact Or.inr ⟨by omega, t, z2, by omega, z4⟩) (by omega) hP hD hS (lv_sub hl [0, 1, 2, 3] rfl)
        · have hr9 := MT_r hTa (show 0 ≤ j by omega) (by omega)
          refine lv_aload_n hx hb dMo_begin_18 rfl (lv_at hl 2 rfl) ?_
          refine va_get (D := (dC, dI)) (ci := 7) (v := .ref (mo + 6)) (C := "MacroReckonerModel") (T := TMo) (N := 23) hx hb hts inMo hown hK hP 0 rfl rfl 7 (by decide) (hts _ wt4_65) (fun _ h9 => h9) rfl dMo_begin_19 ?_
          refine lv_bipush (v := iI 60) hx hb dMo_begin_22 (by decide) ?_
          refine lv_iload_n hx hb dMo_begin_24 rfl (lv_at hl 3 rfl) ?_
          refine iv_imul hx hb dMo_begin_25 ?_
          refine lv_iload_n hx hb dMo_begin_26 rfl (lv_at hl 0 rfl) ?_
          refine iv_iadd hx hb dMo_begin_27 ?_
          refine iv_iald hx hb hK hP 6 0 rfl rfl (by decide) dMo_begin_28 (by omega) (by omega) ?_
          refine lv_bipush (v := iI 32) hx hb dMo_begin_29 (by decide) ?_
          refine iv_icmp_eq (tgt := 38) hx hb dMo_begin_31 (by decide) ⟨by omega, by omega⟩ ⟨by decide, by decide⟩ (fun hc31 => ?_) (fun hc31 => ?_)
          · refine lv_iconst (v := iI 0) hx hb dMo_begin_38 rfl ?_
            refine lv_istore_n (lv' := [(2, .int (iI 0)), (3, .int (iI j)), (0, .ref mo), (1, .int (iI x))]) hx hb dMo_begin_39 rfl hl (by decide) rfl (fun ls hl => ?_)
            refine lv_iinc (k := 1) (lv' := [(3, .int (iI (j + 1))), (2, .int (iI 0)), (0, .ref mo), (1, .int (iI x))]) (v := iI (j + 1)) hx hb dMo_begin_40 hl rfl (iI_add _ _).symm (by decide) rfl (fun ls hl => ?_)
            refine lv_goto (tgt := 4) hx hb dMo_begin_43 (by decide) ?_
            exact ih4 0 (j + 1) H locs ls (by omega) (by rcases hO with ⟨z1, z2⟩ | ⟨z1, t, z2, z3, z4⟩; (first | exact Or.inl ⟨rfl, fun t x y => by rcases (show t < j ∨ t = j by omega) with w | w; exact z2 t x w; rw [w]; omega⟩ | exact Or.inr ⟨rfl, j, by omega, by omega, by omega⟩ | omega); exact Or.inr ⟨by omega, t, z2, by omega, z4⟩) (by omega) hP hD hS (lv_sub hl [0, 1, 2, 3] rfl)
          · refine lv_iconst (v := iI 1) hx hb dMo_begin_34 rfl ?_
            refine lv_goto (tgt := 39) hx hb dMo_begin_35 (by decide) ?_
            refine lv_istore_n (lv' := [(2, .int (iI 1)), (3, .int (iI j)), (0, .ref mo), (1, .int (iI x))]) hx hb dMo_begin_39 rfl hl (by decide) rfl (fun ls hl => ?_)
            refine lv_iinc (k := 1) (lv' := [(3, .int (iI (j + 1))), (2, .int (iI 1)), (0, .ref mo), (1, .int (iI x))]) (v := iI (j + 1)) hx hb dMo_begin_40 hl rfl (iI_add _ _).symm (by decide) rfl (fun ls hl => ?_)
            refine lv_goto (tgt := 4) hx hb dMo_begin_43 (by decide) ?_
            exact ih4 1 (j + 1) H locs ls (by omega) (by rcases hO with ⟨z1, z2⟩ | ⟨z1, t, z2, z3, z4⟩; (first | exact Or.inl ⟨rfl, fun t x y => by rcases (show t < j ∨ t = j by omega) with w | w; exact z2 t x w; rw [w]; omega⟩ | exact Or.inr ⟨rfl, j, by omega, by omega, by omega⟩ | omega); exact Or.inr ⟨by omega, t, z2, by omega, z4⟩) (by omega) hP hD hS (lv_sub hl [0, 1, 2, 3] rfl)
  exact L4 _ 0 0 H locs ls (by omega) (by exact Or.inl ⟨rfl, fun t x y => by omega⟩) (Nat.lt_succ_self _) hP hD hS (lv_sub hl [0, 1, 2, 3] rfl)

theorem dMo_numeral_0 : decode prog_9_method_43_code 0 = .ok (.aload_n 0, 1) := by decide +kernel
theorem dMo_numeral_1 : decode prog_9_method_43_code 1 = .ok (.getfield 47, 3) := by decide +kernel
theorem dMo_numeral_4 : decode prog_9_method_43_code 4 = .ok (.iconst 0, 1) := by decide +kernel
theorem dMo_numeral_5 : decode prog_9_method_43_code 5 = .ok (.iconst 0, 1) := by decide +kernel
theorem dMo_numeral_6 : decode prog_9_method_43_code 6 = .ok (.iastore, 1) := by decide +kernel
theorem dMo_numeral_7 : decode prog_9_method_43_code 7 = .ok (.iconst 0, 1) := by decide +kernel
theorem dMo_numeral_8 : decode prog_9_method_43_code 8 = .ok (.istore_n 1, 1) := by decide +kernel
theorem dMo_numeral_9 : decode prog_9_method_43_code 9 = .ok (.iconst 0, 1) := by decide +kernel
theorem dMo_numeral_10 : decode prog_9_method_43_code 10 = .ok (.istore_n 2, 1) := by decide +kernel
theorem dMo_numeral_11 : decode prog_9_method_43_code 11 = .ok (.iconst 0, 1) := by decide +kernel
theorem dMo_numeral_12 : decode prog_9_method_43_code 12 = .ok (.istore_n 3, 1) := by decide +kernel
theorem dMo_numeral_13 : decode prog_9_method_43_code 13 = .ok (.iload_n 3, 1) := by decide +kernel
theorem dMo_numeral_14 : decode prog_9_method_43_code 14 = .ok (.aload_n 0, 1) := by decide +kernel
theorem dMo_numeral_15 : decode prog_9_method_43_code 15 = .ok (.getfield 154, 3) := by decide +kernel
theorem dMo_numeral_18 : decode prog_9_method_43_code 18 = .ok (.if_icmp .ge 65, 3) := by decide +kernel
theorem dMo_numeral_21 : decode prog_9_method_43_code 21 = .ok (.aload_n 0, 1) := by decide +kernel
theorem dMo_numeral_22 : decode prog_9_method_43_code 22 = .ok (.getfield 41, 3) := by decide +kernel
theorem dMo_numeral_25 : decode prog_9_method_43_code 25 = .ok (.iload_n 3, 1) := by decide +kernel
theorem dMo_numeral_26 : decode prog_9_method_43_code 26 = .ok (.iaload, 1) := by decide +kernel
theorem dMo_numeral_27 : decode prog_9_method_43_code 27 = .ok (.istore 4, 2) := by decide +kernel
theorem dMo_numeral_29 : decode prog_9_method_43_code 29 = .ok (.iload_n 2, 1) := by decide +kernel
theorem dMo_numeral_30 : decode prog_9_method_43_code 30 = .ok (.ifCond .ne 10, 3) := by decide +kernel
theorem dMo_numeral_33 : decode prog_9_method_43_code 33 = .ok (.iload 4, 2) := by decide +kernel
theorem dMo_numeral_35 : decode prog_9_method_43_code 35 = .ok (.bipush 46, 2) := by decide +kernel
theorem dMo_numeral_37 : decode prog_9_method_43_code 37 = .ok (.if_icmp .ne 7, 3) := by decide +kernel
theorem dMo_numeral_40 : decode prog_9_method_43_code 40 = .ok (.iconst 1, 1) := by decide +kernel
theorem dMo_numeral_41 : decode prog_9_method_43_code 41 = .ok (.goto 4, 3) := by decide +kernel
theorem dMo_numeral_44 : decode prog_9_method_43_code 44 = .ok (.iconst 0, 1) := by decide +kernel
theorem dMo_numeral_45 : decode prog_9_method_43_code 45 = .ok (.istore_n 2, 1) := by decide +kernel
theorem dMo_numeral_46 : decode prog_9_method_43_code 46 = .ok (.iload 4, 2) := by decide +kernel
theorem dMo_numeral_48 : decode prog_9_method_43_code 48 = .ok (.invokestatic 145, 3) := by decide +kernel
theorem dMo_numeral_51 : decode prog_9_method_43_code 51 = .ok (.ifCond .eq 26, 3) := by decide +kernel
theorem dMo_numeral_54 : decode prog_9_method_43_code 54 = .ok (.aload_n 0, 1) := by decide +kernel
theorem dMo_numeral_55 : decode prog_9_method_43_code 55 = .ok (.iconst 0, 1) := by decide +kernel
theorem dMo_numeral_56 : decode prog_9_method_43_code 56 = .ok (.iconst (-1), 1) := by decide +kernel
theorem dMo_numeral_57 : decode prog_9_method_43_code 57 = .ok (.iload 4, 2) := by decide +kernel
theorem dMo_numeral_59 : decode prog_9_method_43_code 59 = .ok (.bipush 48, 2) := by decide +kernel
theorem dMo_numeral_61 : decode prog_9_method_43_code 61 = .ok (.isub, 1) := by decide +kernel
theorem dMo_numeral_62 : decode prog_9_method_43_code 62 = .ok (.invokevirtual 58, 3) := by decide +kernel
theorem dMo_numeral_65 : decode prog_9_method_43_code 65 = .ok (.iload_n 2, 1) := by decide +kernel
theorem dMo_numeral_66 : decode prog_9_method_43_code 66 = .ok (.ifCond .eq 9, 3) := by decide +kernel
theorem dMo_numeral_69 : decode prog_9_method_43_code 69 = .ok (.iload_n 1, 1) := by decide +kernel
theorem dMo_numeral_70 : decode prog_9_method_43_code 70 = .ok (.iconst 1, 1) := by decide +kernel
theorem dMo_numeral_71 : decode prog_9_method_43_code 71 = .ok (.iadd, 1) := by decide +kernel
theorem dMo_numeral_72 : decode prog_9_method_43_code 72 = .ok (.goto 4, 3) := by decide +kernel
theorem dMo_numeral_75 : decode prog_9_method_43_code 75 = .ok (.iload_n 1, 1) := by decide +kernel
theorem dMo_numeral_76 : decode prog_9_method_43_code 76 = .ok (.istore_n 1, 1) := by decide +kernel
theorem dMo_numeral_77 : decode prog_9_method_43_code 77 = .ok (.iinc 3 1, 3) := by decide +kernel
theorem dMo_numeral_80 : decode prog_9_method_43_code 80 = .ok (.goto (-67), 3) := by decide +kernel
theorem dMo_numeral_83 : decode prog_9_method_43_code 83 = .ok (.aload_n 0, 1) := by decide +kernel
theorem dMo_numeral_84 : decode prog_9_method_43_code 84 = .ok (.iconst 0, 1) := by decide +kernel
theorem dMo_numeral_85 : decode prog_9_method_43_code 85 = .ok (.aload_n 0, 1) := by decide +kernel
theorem dMo_numeral_86 : decode prog_9_method_43_code 86 = .ok (.getfield 41, 3) := by decide +kernel
theorem dMo_numeral_89 : decode prog_9_method_43_code 89 = .ok (.iconst 0, 1) := by decide +kernel
theorem dMo_numeral_90 : decode prog_9_method_43_code 90 = .ok (.iaload, 1) := by decide +kernel
theorem dMo_numeral_91 : decode prog_9_method_43_code 91 = .ok (.bipush 95, 2) := by decide +kernel
theorem dMo_numeral_93 : decode prog_9_method_43_code 93 = .ok (.if_icmp .ne 7, 3) := by decide +kernel
theorem dMo_numeral_96 : decode prog_9_method_43_code 96 = .ok (.iconst (-1), 1) := by decide +kernel
theorem dMo_numeral_97 : decode prog_9_method_43_code 97 = .ok (.goto 4, 3) := by decide +kernel
theorem dMo_numeral_100 : decode prog_9_method_43_code 100 = .ok (.iconst 1, 1) := by decide +kernel
theorem dMo_numeral_101 : decode prog_9_method_43_code 101 = .ok (.iload_n 1, 1) := by decide +kernel
theorem dMo_numeral_102 : decode prog_9_method_43_code 102 = .ok (.invokevirtual 79, 3) := by decide +kernel
theorem dMo_numeral_105 : decode prog_9_method_43_code 105 = .ok (.istore_n 3, 1) := by decide +kernel
theorem dMo_numeral_106 : decode prog_9_method_43_code 106 = .ok (.iload_n 3, 1) := by decide +kernel
theorem dMo_numeral_107 : decode prog_9_method_43_code 107 = .ok (.ifCond .ge 7, 3) := by decide +kernel
theorem dMo_numeral_110 : decode prog_9_method_43_code 110 = .ok (.iload_n 3, 1) := by decide +kernel
theorem dMo_numeral_111 : decode prog_9_method_43_code 111 = .ok (.goto 8, 3) := by decide +kernel
theorem dMo_numeral_114 : decode prog_9_method_43_code 114 = .ok (.aload_n 0, 1) := by decide +kernel
theorem dMo_numeral_115 : decode prog_9_method_43_code 115 = .ok (.iconst 0, 1) := by decide +kernel
theorem dMo_numeral_116 : decode prog_9_method_43_code 116 = .ok (.invokevirtual 163, 3) := by decide +kernel
theorem dMo_numeral_119 : decode prog_9_method_43_code 119 = .ok (.ireturn, 1) := by decide +kernel
abbrev qMo_numeral (dC : Nat → ClassId) (dI : Nat → Nat → Nat) (dA : Nat → ClassId) (mo : Nat) (ft : Int) (lf : Int) (hg : Int) (kk : Int) (tx : Int) (pn : Int) (tk : Int) (fm : Int) (tO : Int) (tl : Int) (mI : Int → Int) (mT : Int → Int) (mS : Int → Int) (mC : Int → Int) (mL : Int → Int) (mB : Int → Int) (mF : Int → Int) (mU : Int → Int) (mX : Int → Int) (mP : Int → Int) (mK : Int → Int) (mD : Int → Int) (mZ : Int → Int) (st : AS) (D : Int → Int) (A : Nat → Prop) : Array Value → State → Outcome → State → Prop := QI (dC, dI) vwCl (tyA dA) (fun (r : Int) (v_ : (Int → Int) × (Int → Int) × (Int → Int) × (Int → Int) × (Int → Int) × (Int → Int) × (Int → Int) × Int) => r = (numA st D tl).1 ∧ MH v_.1 v_.2.1 v_.2.2.1 v_.2.2.2.1 v_.2.2.2.2.1 v_.2.2.2.2.2.2.2 kk (numA st D tl).2) (fun (v_ : (Int → Int) × (Int → Int) × (Int → Int) × (Int → Int) × (Int → Int) × (Int → Int) × (Int → Int) × Int) => wMo dA mo ft lf v_.2.2.2.2.2.2.2 kk tx pn tk fm tO tl mI v_.1 v_.2.1 v_.2.2.1 v_.2.2.2.1 v_.2.2.2.2.1 mF mU mX mP mK v_.2.2.2.2.2.1 v_.2.2.2.2.2.2.1 []) A
abbrev rmMo_numeral : Room := { frames := 2, cells := 0, slots := 0, locals := 46 }
set_option maxRecDepth 100000 in
set_option maxHeartbeats 1000000 in
theorem cMo_numeral (l : Launch) (dC : Nat → ClassId) (dI : Nat → Nat → Nat) (dA : Nat → ClassId) (mo : Nat) (ft : Int) (lf : Int) (hg : Int) (kk : Int) (tx : Int) (pn : Int) (tk : Int) (fm : Int) (tO : Int) (tl : Int) (mI : Int → Int) (mT : Int → Int) (mS : Int → Int) (mC : Int → Int) (mL : Int → Int) (mB : Int → Int) (mF : Int → Int) (mU : Int → Int) (mX : Int → Int) (mP : Int → Int) (mK : Int → Int) (mD : Int → Int) (mZ : Int → Int) (st : AS) (D : Int → Int) (hMH : MH mT mS mC mL mB hg kk st) (htl : 1 ≤ tl ∧ tl ≤ 100) (hD9 : ∀ j, 0 ≤ j → j < tl → mK j = D j) (hnu : (D 0 = 95 ∨ D 0 = 46 ∨ (48 ≤ D 0 ∧ D 0 ≤ 57)) ∧ ∀ j, 1 ≤ j → j < tl → D j = 46 ∨ (48 ≤ D j ∧ D j ≤ 57)) (sz : Nat) : Met l yMo_numeral wsMo_numeral rmMo_numeral (PC (dC, dI) vwCl (tyA dA) XN [.ref mo] (wMo dA mo ft lf hg kk tx pn tk fm tO tl mI mT mS mC mL mB mF mU mX mP mK mD mZ []) sz) (qMo_numeral dC dI dA mo ft lf hg kk tx pn tk fm tO tl mI mT mS mC mL mB mF mU mX mP mK mD mZ st D (va_A (wMo dA mo ft lf hg kk tx pn tk fm tO tl mI mT mS mC mL mB mF mU mX mP mK mD mZ []) sz)) 0 0 (va_A (wMo dA mo ft lf hg kk tx pn tk fm tO tl mI mT mS mC mL mB mF mU mX mP mK mD mZ []) sz) := by
  refine met_of (cc := prog_9_method_43_code) (maxL := 5) (ret := (some .int)) (Qc := qMo_numeral dC dI dA mo ft lf hg kk tx pn tk fm tO tl mI mT mS mC mL mB mF mU mX mP mK mD mZ st D) XN_ok (by decide) rfl (Nat.le_of_ble_eq_true rfl) ?_
  intro p e s m below meth c ls A hx hb hr hml hown hts hlocks hnm hK hP hD hA hX hS hl
  have hl : lv_has ls 5 [(0, .ref mo)] := hl
  have hown : s.vm.findClass "MacroReckonerModel" = some m.cls := hown
  obtain ⟨H, hH⟩ : ∃ H : Heap, H = s.heap := ⟨_, rfl⟩
  obtain ⟨locs, hlo⟩ : ∃ L : List Loc, L = [] := ⟨_, rfl⟩
  have hP : va_P (dC, dI) vwCl (wMo dA mo ft lf hg kk tx pn tk fm tO tl mI mT mS mC mL mB mF mU mX mP mK mD mZ []) H := hH ▸ hP
  have hS : va_S A s.heap H locs := by rw [hH, hlo]; exact hS
  suffices hgo : W p l e rmMo_numeral s m [.ref mo].toArray below meth c H locs 0 0 (MQ below (qMo_numeral dC dI dA mo ft lf hg kk tx pn tk fm tO tl mI mT mS mC mL mB mF mU mX mP mK mD mZ st D A) [.ref mo].toArray s 0 0 A) (F0 m 0 ls []) by rw [hH, hlo] at hgo; exact hgo
  clear hH hlo
  have hok : nuOK D 0 tl := fun j x y => by rw [Int.zero_add]; rcases (show j = 0 ∨ 1 ≤ j by omega) with z | z; rw [z]; exact hnu.1; have := hnu.2 j z y; omega
  have hh := hMH.1
  have hk0 := hD9 0 (by omega) (by omega)
  have hm0 := nuM_0 (D := D) (n := tl) (fun j x y => by have := hnu.2 j x y; omega) (tl - 1) (by omega) (by omega)
  rw [show tl - 1 + 1 = tl by omega] at hm0
  refine lv_aload_n hx hb dMo_numeral_0 rfl (lv_at hl 0 rfl) ?_
  refine va_get (D := (dC, dI)) (ci := 7) (v := .ref (mo + 13)) (C := "MacroReckonerModel") (T := TMo) (N := 23) hx hb hts inMo hown hK hP 0 rfl rfl 22 (by decide) (hts _ wt4_80) (fun _ h9 => h9) rfl dMo_numeral_1 ?_
  refine lv_iconst (v := iI 0) hx hb dMo_numeral_4 rfl ?_
  refine lv_iconst (v := iI 0) hx hb dMo_numeral_5 rfl ?_
  refine iv_iast (v := 0) hx hb hK hP hD hS 13 0 rfl rfl (by decide) dMo_numeral_6 (by omega) (by omega) (fun H locs hP hD hS => ?_)
  have hP : va_P (dC, dI) vwCl (wMo dA mo ft lf hg kk tx pn tk fm tO tl mI mT mS mC mL mB mF mU mX mP mK mD (up mZ 0 0) []) H := hP
  have hD : va_D A (wMo dA mo ft lf hg kk tx pn tk fm tO tl mI mT mS mC mL mB mF mU mX mP mK mD (up mZ 0 0) []) := hD
  refine lv_iconst (v := iI 0) hx hb dMo_numeral_7 rfl ?_
  refine lv_istore_n (lv' := [(1, .int (iI 0)), (0, .ref mo)]) hx hb dMo_numeral_8 rfl hl (by decide) rfl (fun ls hl => ?_)
  refine lv_iconst (v := iI 0) hx hb dMo_numeral_9 rfl ?_
  refine lv_istore_n (lv' := [(2, .int (iI 0)), (1, .int (iI 0)), (0, .ref mo)]) hx hb dMo_numeral_10 rfl hl (by decide) rfl (fun ls hl => ?_)
  refine lv_iconst (v := iI 0) hx hb dMo_numeral_11 rfl ?_
  refine lv_istore_n (lv' := [(3, .int (iI 0)), (2, .int (iI 0)), (1, .int (iI 0)), (0, .ref mo)]) hx hb dMo_numeral_12 rfl hl (by decide) rfl (fun ls hl => ?_)
  have L13 : ∀ (n : Nat) (D9 : Int → Int) (Z9 : Int → Int) (pl : Int) (pt : Int) (p9 : Int) (H : Heap) (locs : List Loc) (ls : Array Slot), (0 ≤ p9 ∧ p9 ≤ tl) → (MR D9 Z9 0 (nuN D 0 p9.toNat)) → (pl = nuS D 0 p9.toNat ∧ 0 ≤ pl ∧ pl ≤ p9) → (pt = nuP D 0 p9.toNat ∧ (pt = 0 ∨ pt = 1)) → (tl - p9).toNat < n → va_P (dC, dI) vwCl (wMo dA mo ft lf hg kk tx pn tk fm tO tl mI mT mS mC mL mB mF mU mX mP mK D9 Z9 []) H → va_D A (wMo dA mo ft lf hg kk tx pn tk fm tO tl mI mT mS mC mL mB mF mU mX mP mK D9 Z9 []) → va_S A s.heap H locs → lv_has ls 5 [(3, .int (iI p9)), (2, .int (iI pt)), (1, .int (iI pl)), (0, .ref mo)] → W p l e rmMo_numeral s m [.ref mo].toArray below meth c H locs 0 0 (MQ below (qMo_numeral dC dI dA mo ft lf hg kk tx pn tk fm tO tl mI mT mS mC mL mB mF mU mX mP mK mD mZ st D A) [.ref mo].toArray s 0 0 A) (F0 m 13 ls []) := by
    intro n
    induction n with
    | zero => intro D9 Z9 pl pt p9 H locs ls hp hJ hpl hpt hn; omega
    | succ n ih =>
      intro D9 Z9 pl pt p9 H locs ls hp hJ hpl hpt hn hP hD hS hl
      have ih13 := ih
      refine lv_iload_n hx hb dMo_numeral_13 rfl (lv_at hl 0 rfl) ?_
      refine lv_aload_n hx hb dMo_numeral_14 rfl (lv_at hl 3 rfl) ?_
      refine va_get (D := (dC, dI)) (ci := 7) (v := .int (iI tl)) (C := "MacroReckonerModel") (T := TMo) (N := 23) hx hb hts inMo hown hK hP 0 rfl rfl 20 (by decide) (hts _ wt4_78) (fun _ h9 => h9) rfl dMo_numeral_15 ?_
      refine iv_icmp_ge (tgt := 83) hx hb dMo_numeral_18 (by decide) ⟨by omega, by omega⟩ ⟨by omega, by omega⟩ (fun hc18 => ?_) (fun hc18 => ?_)
      · have hpe : p9 = tl := by omega
        rw [hpe] at hJ hpl
        refine lv_aload_n hx hb dMo_numeral_83 rfl (lv_at hl 3 rfl) ?_
        refine lv_iconst (v := iI 0) hx hb dMo_numeral_84 rfl ?_
        refine lv_aload_n hx hb dMo_numeral_85 rfl (lv_at hl 3 rfl) ?_
        refine va_get (D := (dC, dI)) (ci := 7) (v := .ref (mo + 11)) (C := "MacroReckonerModel") (T := TMo) (N := 23) hx hb hts inMo hown hK hP 0 rfl rfl 19 (by decide) (hts _ wt4_77) (fun _ h9 => h9) rfl dMo_numeral_86 ?_
        refine lv_iconst (v := iI 0) hx hb dMo_numeral_89 rfl ?_
        refine iv_iald hx hb hK hP 11 0 rfl rfl (by decide) dMo_numeral_90 (by omega) (by omega) ?_
        refine lv_bipush (v := iI 95) hx hb dMo_numeral_91 (by decide) ?_
        refine iv_icmp_ne (tgt := 100) hx hb dMo_numeral_93 (by decide) ⟨by omega, by omega⟩ ⟨by decide, by decide⟩ (fun hc93 => ?_) (fun hc93 => ?_)
        · refine lv_iconst (v := iI 1) hx hb dMo_numeral_100 rfl ?_
          refine lv_iload_n hx hb dMo_numeral_101 rfl (lv_at hl 2 rfl) ?_
          refine cv_i (va_runV (C := "MacroReckonerModel") (As := [.int (iI 0), .int (iI 1), .int (iI pl)]) (rest := []) ⟨hx, hb, hml, hown, hts⟩ (cMo_make l dC dI dA mo ft lf hg kk tx pn tk fm tO tl mI mT mS mC mL mB mF mU mX mP mK D9 Z9 0 1 pl (nuN D 0 tl.toNat) ((if nuM D 0 tl.toNat = 1 then -nuN D 0 tl.toNat else nuN D 0 tl.toNat)) (by omega) (by exact hJ) (by omega) (by omega) (by rw [hm0]; (first | (rw [if_pos (show D 0 = 95 by omega), if_pos rfl]; exact sm_1) | (rw [if_neg (show ¬ D 0 = 95 by omega), if_neg (by decide)]; exact sm_0 (by decide)))) H.size) (cwV 3 hts (gdV wt4_195 wt4_197 ws4_3 wt1_8 wt4_198) rfl rfl rfl ⟨rfl, by decide, by decide, by decide +kernel⟩ ⟨by decide, by decide⟩) (preV (q := ("MacroReckonerModel", TMo, 23)) hK hP hD hS hA XN_ok trivial [0, 1, 2, 3, 4, 5, 6, 7, 8, 9, 10, 11, 12, 13] rfl rfl 0 rfl rfl) rfl rfl hl.1 rfl (lv_room (Nat.le_of_ble_eq_true rfl)) dMo_numeral_102 ⟨Nat.zero_le _, Nat.zero_le _⟩) hP hD hS hA [0, 1, 2, 3, 4, 5, 6, 7, 8, 9, 10, 11, 12, 13] [] rfl (fun v_ => wMo dA mo ft lf hg kk tx pn tk fm tO tl mI v_.1 v_.2.1 v_.2.2.1 v_.2.2.2.1 v_.2.2.2.2 mF mU mX mP mK D9 Z9 []) (fun _ => rfl) ([] : va_W) rfl (fun _ => rfl) [mo, mo + 1, mo + 2, mo + 3, mo + 4, mo + 5, mo + 6, mo + 7, mo + 8, mo + 9, mo + 10, mo + 11, mo + 12, mo + 13] rfl (fun _ => rfl) (fun _ => rfl) (fun r102 u_ H locs hq102 hP hD hS => ?_)
          obtain ⟨T1_102, S1_102, C1_102, L1_102, B1_102⟩ := u_
          have hP : va_P (dC, dI) vwCl (wMo dA mo ft lf hg kk tx pn tk fm tO tl mI T1_102 S1_102 C1_102 L1_102 B1_102 mF mU mX mP mK D9 Z9 []) H := hP
          have hD : va_D A (wMo dA mo ft lf hg kk tx pn tk fm tO tl mI T1_102 S1_102 C1_102 L1_102 B1_102 mF mU mX mP mK D9 Z9 []) := hD
          have hq102 : mres r102 ((if nuM D 0 tl.toNat = 1 then -nuN D 0 tl.toNat else nuN D 0 tl.toNat)) pl T1_102 S1_102 C1_102 L1_102 B1_102 ∧ thO mT mS mC mL mB T1_102 S1_102 C1_102 L1_102 B1_102 46 := hq102
          have hab : ab (if nuM D 0 tl.toNat = 1 then -nuN D 0 tl.toNat else nuN D 0 tl.toNat) = nuN D 0 tl.toNat := by have h := M_nn hJ; unfold ab; split <;> omega
          have hMH2 := MH_o hq102.2 hMH
          have hrr : r102 = -7 ∨ r102 = 0 := by rcases hq102.1 with ⟨z, -⟩ | ⟨z, -⟩ <;> omega
          refine lv_istore_n (lv' := [(3, .int (iI r102)), (2, .int (iI pt)), (1, .int (iI pl)), (0, .ref mo)]) hx hb dMo_numeral_105 rfl hl (by decide) rfl (fun ls hl => ?_)
          refine lv_iload_n hx hb dMo_numeral_106 rfl (lv_at hl 0 rfl) ?_
          refine iv_if_ge (tgt := 114) hx hb dMo_numeral_107 (by decide) ⟨by omega, by omega⟩ (fun hc107 => ?_) (fun hc107 => ?_)
          · refine lv_aload_n hx hb dMo_numeral_114 rfl (lv_at hl 3 rfl) ?_
            refine lv_iconst (v := iI 0) hx hb dMo_numeral_115 rfl ?_
            refine cv_i (va_runV (C := "MacroReckonerModel") (As := [.int (iI 0)]) (rest := []) ⟨hx, hb, hml, hown, hts⟩ (cMo_put l dC dI dA mo ft lf hg kk tx pn tk fm tO tl mI T1_102 S1_102 C1_102 L1_102 B1_102 mF mU mX mP mK D9 Z9 0 (by omega) (by have h := (num_0 (st := st) hq102.1 (by omega) hab hpl.1 rfl).1; exact (MT_b h).1) H.size) (cwV 1 hts (gdV wt4_199 wt4_201 ws4_4 wt1_8 wt4_202) rfl rfl rfl ⟨rfl, by decide, by decide, by decide +kernel⟩ ⟨by decide, by decide⟩) (preV (q := ("MacroReckonerModel", TMo, 23)) hK hP hD hS hA XN_ok trivial [0, 1, 2, 3, 4, 5, 6, 7, 8, 9, 10, 11, 12, 13] rfl rfl 0 rfl rfl) rfl rfl hl.1 rfl (lv_room (Nat.le_of_ble_eq_true rfl)) dMo_numeral_116 ⟨Nat.zero_le _, Nat.zero_le _⟩) hP hD hS hA [0, 1, 2, 3, 4, 5, 6, 7, 8, 9, 10, 11, 12, 13] [] rfl (fun v_ => wMo dA mo ft lf v_.2.2.2.2.2 kk tx pn tk fm tO tl mI v_.1 v_.2.1 v_.2.2.1 v_.2.2.2.1 v_.2.2.2.2.1 mF mU mX mP mK D9 Z9 []) (fun _ => rfl) ([] : va_W) rfl (fun _ => rfl) [mo, mo + 1, mo + 2, mo + 3, mo + 4, mo + 5, mo + 6, mo + 7, mo + 8, mo + 9, mo + 10, mo + 11, mo + 12, mo + 13] rfl (fun _ => rfl) (fun _ => rfl) (fun r116 u_ H locs hq116 hP hD hS => ?_)
            obtain ⟨T1_116, S1_116, C1_116, L1_116, B1_116, hg1_116⟩ := u_
            have hP : va_P (dC, dI) vwCl (wMo dA mo ft lf hg1_116 kk tx pn tk fm tO tl mI T1_116 S1_116 C1_116 L1_116 B1_116 mF mU mX mP mK D9 Z9 []) H := hP
            have hD : va_D A (wMo dA mo ft lf hg1_116 kk tx pn tk fm tO tl mI T1_116 S1_116 C1_116 L1_116 B1_116 mF mU mX mP mK D9 Z9 []) := hD
            have hq116 : putR r116 hg 0 hg1_116 T1_102 S1_102 C1_102 L1_102 B1_102 T1_116 S1_116 C1_116 L1_116 B1_116 := hq116
            exact rt_i hx hb hr hlocks hK hS dMo_numeral_119 (T1_116, S1_116, C1_116, L1_116, B1_116, D9, Z9, hg1_116) hP hD (show r116 = (numA st D tl).1 ∧ MH T1_116 S1_116 C1_116 L1_116 B1_116 hg1_116 kk (numA st D tl).2 from by first | (have h := num_7 (st := st) hq102.1 (by omega) hab hpl.1; rw [h.2]; exact ⟨h.1, hMH2⟩) | (have h := num_0 (st := st) hq102.1 (by omega) hab hpl.1 rfl; rw [h.2]; exact put_0 hq116 hMH2 h.1))
          · refine lv_iload_n hx hb dMo_numeral_110 rfl (lv_at hl 0 rfl) ?_
            refine lv_goto (tgt := 119) hx hb dMo_numeral_111 (by decide) ?_
            exact rt_i hx hb hr hlocks hK hS dMo_numeral_119 (T1_102, S1_102, C1_102, L1_102, B1_102, D9, Z9, hg) hP hD (show r102 = (numA st D tl).1 ∧ MH T1_102 S1_102 C1_102 L1_102 B1_102 hg kk (numA st D tl).2 from by first | (have h := num_7 (st := st) hq102.1 (by omega) hab hpl.1; rw [h.2]; exact ⟨h.1, hMH2⟩) | (have h := num_0 (st := st) hq102.1 (by omega) hab hpl.1 rfl; rw [h.2]; exact put_0 hq116 hMH2 h.1))
        · refine lv_iconst (v := iI (-1)) hx hb dMo_numeral_96 rfl ?_
          refine lv_goto (tgt := 101) hx hb dMo_numeral_97 (by decide) ?_
          refine lv_iload_n hx hb dMo_numeral_101 rfl (lv_at hl 2 rfl) ?_
          refine cv_i (va_runV (C := "MacroReckonerModel") (As := [.int (iI 0), .int (iI (-1)), .int (iI pl)]) (rest := []) ⟨hx, hb, hml, hown, hts⟩ (cMo_make l dC dI dA mo ft lf hg kk tx pn tk fm tO tl mI mT mS mC mL mB mF mU mX mP mK D9 Z9 0 (-1) pl (nuN D 0 tl.toNat) ((if nuM D 0 tl.toNat = 1 then -nuN D 0 tl.toNat else nuN D 0 tl.toNat)) (by omega) (by exact hJ) (by omega) (by omega) (by rw [hm0]; (first | (rw [if_pos (show D 0 = 95 by omega), if_pos rfl]; exact sm_1) | (rw [if_neg (show ¬ D 0 = 95 by omega), if_neg (by decide)]; exact sm_0 (by decide)))) H.size) (cwV 3 hts (gdV wt4_195 wt4_197 ws4_3 wt1_8 wt4_198) rfl rfl rfl ⟨rfl, by decide, by decide, by decide +kernel⟩ ⟨by decide, by decide⟩) (preV (q := ("MacroReckonerModel", TMo, 23)) hK hP hD hS hA XN_ok trivial [0, 1, 2, 3, 4, 5, 6, 7, 8, 9, 10, 11, 12, 13] rfl rfl 0 rfl rfl) rfl rfl hl.1 rfl (lv_room (Nat.le_of_ble_eq_true rfl)) dMo_numeral_102 ⟨Nat.zero_le _, Nat.zero_le _⟩) hP hD hS hA [0, 1, 2, 3, 4, 5, 6, 7, 8, 9, 10, 11, 12, 13] [] rfl (fun v_ => wMo dA mo ft lf hg kk tx pn tk fm tO tl mI v_.1 v_.2.1 v_.2.2.1 v_.2.2.2.1 v_.2.2.2.2 mF mU mX mP mK D9 Z9 []) (fun _ => rfl) ([] : va_W) rfl (fun _ => rfl) [mo, mo + 1, mo + 2, mo + 3, mo + 4, mo + 5, mo + 6, mo + 7, mo + 8, mo + 9, mo + 10, mo + 11, mo + 12, mo + 13] rfl (fun _ => rfl) (fun _ => rfl) (fun r102 u_ H locs hq102 hP hD hS => ?_)
          obtain ⟨T1_102, S1_102, C1_102, L1_102, B1_102⟩ := u_
          have hP : va_P (dC, dI) vwCl (wMo dA mo ft lf hg kk tx pn tk fm tO tl mI T1_102 S1_102 C1_102 L1_102 B1_102 mF mU mX mP mK D9 Z9 []) H := hP
          have hD : va_D A (wMo dA mo ft lf hg kk tx pn tk fm tO tl mI T1_102 S1_102 C1_102 L1_102 B1_102 mF mU mX mP mK D9 Z9 []) := hD
          have hq102 : mres r102 ((if nuM D 0 tl.toNat = 1 then -nuN D 0 tl.toNat else nuN D 0 tl.toNat)) pl T1_102 S1_102 C1_102 L1_102 B1_102 ∧ thO mT mS mC mL mB T1_102 S1_102 C1_102 L1_102 B1_102 46 := hq102
          have hab : ab (if nuM D 0 tl.toNat = 1 then -nuN D 0 tl.toNat else nuN D 0 tl.toNat) = nuN D 0 tl.toNat := by have h := M_nn hJ; unfold ab; split <;> omega
          have hMH2 := MH_o hq102.2 hMH
          have hrr : r102 = -7 ∨ r102 = 0 := by rcases hq102.1 with ⟨z, -⟩ | ⟨z, -⟩ <;> omega
          refine lv_istore_n (lv' := [(3, .int (iI r102)), (2, .int (iI pt)), (1, .int (iI pl)), (0, .ref mo)]) hx hb dMo_numeral_105 rfl hl (by decide) rfl (fun ls hl => ?_)
          refine lv_iload_n hx hb dMo_numeral_106 rfl (lv_at hl 0 rfl) ?_
          refine iv_if_ge (tgt := 114) hx hb dMo_numeral_107 (by decide) ⟨by omega, by omega⟩ (fun hc107 => ?_) (fun hc107 => ?_)
          · refine lv_aload_n hx hb dMo_numeral_114 rfl (lv_at hl 3 rfl) ?_
            refine lv_iconst (v := iI 0) hx hb dMo_numeral_115 rfl ?_
            refine cv_i (va_runV (C := "MacroReckonerModel") (As := [.int (iI 0)]) (rest := []) ⟨hx, hb, hml, hown, hts⟩ (cMo_put l dC dI dA mo ft lf hg kk tx pn tk fm tO tl mI T1_102 S1_102 C1_102 L1_102 B1_102 mF mU mX mP mK D9 Z9 0 (by omega) (by have h := (num_0 (st := st) hq102.1 (by omega) hab hpl.1 rfl).1; exact (MT_b h).1) H.size) (cwV 1 hts (gdV wt4_199 wt4_201 ws4_4 wt1_8 wt4_202) rfl rfl rfl ⟨rfl, by decide, by decide, by decide +kernel⟩ ⟨by decide, by decide⟩) (preV (q := ("MacroReckonerModel", TMo, 23)) hK hP hD hS hA XN_ok trivial [0, 1, 2, 3, 4, 5, 6, 7, 8, 9, 10, 11, 12, 13] rfl rfl 0 rfl rfl) rfl rfl hl.1 rfl (lv_room (Nat.le_of_ble_eq_true rfl)) dMo_numeral_116 ⟨Nat.zero_le _, Nat.zero_le _⟩) hP hD hS hA [0, 1, 2, 3, 4, 5, 6, 7, 8, 9, 10, 11, 12, 13] [] rfl (fun v_ => wMo dA mo ft lf v_.2.2.2.2.2 kk tx pn tk fm tO tl mI v_.1 v_.2.1 v_.2.2.1 v_.2.2.2.1 v_.2.2.2.2.1 mF mU mX mP mK D9 Z9 []) (fun _ => rfl) ([] : va_W) rfl (fun _ => rfl) [mo, mo + 1, mo + 2, mo + 3, mo + 4, mo + 5, mo + 6, mo + 7, mo + 8, mo + 9, mo + 10, mo + 11, mo + 12, mo + 13] rfl (fun _ => rfl) (fun _ => rfl) (fun r116 u_ H locs hq116 hP hD hS => ?_)
            obtain ⟨T1_116, S1_116, C1_116, L1_116, B1_116, hg1_116⟩ := u_
            have hP : va_P (dC, dI) vwCl (wMo dA mo ft lf hg1_116 kk tx pn tk fm tO tl mI T1_116 S1_116 C1_116 L1_116 B1_116 mF mU mX mP mK D9 Z9 []) H := hP
            have hD : va_D A (wMo dA mo ft lf hg1_116 kk tx pn tk fm tO tl mI T1_116 S1_116 C1_116 L1_116 B1_116 mF mU mX mP mK D9 Z9 []) := hD
            have hq116 : putR r116 hg 0 hg1_116 T1_102 S1_102 C1_102 L1_102 B1_102 T1_116 S1_116 C1_116 L1_116 B1_116 := hq116
            exact rt_i hx hb hr hlocks hK hS dMo_numeral_119 (T1_116, S1_116, C1_116, L1_116, B1_116, D9, Z9, hg1_116) hP hD (show r116 = (numA st D tl).1 ∧ MH T1_116 S1_116 C1_116 L1_116 B1_116 hg1_116 kk (numA st D tl).2 from by first | (have h := num_7 (st := st) hq102.1 (by omega) hab hpl.1; rw [h.2]; exact ⟨h.1, hMH2⟩) | (have h := num_0 (st := st) hq102.1 (by omega) hab hpl.1 rfl; rw [h.2]; exact put_0 hq116 hMH2 h.1))
          · refine lv_iload_n hx hb dMo_numeral_110 rfl (lv_at hl 0 rfl) ?_
            refine lv_goto (tgt := 119) hx hb dMo_numeral_111 (by decide) ?_
            exact rt_i hx hb hr hlocks hK hS dMo_numeral_119 (T1_102, S1_102, C1_102, L1_102, B1_102, D9, Z9, hg) hP hD (show r102 = (numA st D tl).1 ∧ MH T1_102 S1_102 C1_102 L1_102 B1_102 hg kk (numA st D tl).2 from by first | (have h := num_7 (st := st) hq102.1 (by omega) hab hpl.1; rw [h.2]; exact ⟨h.1, hMH2⟩) | (have h := num_0 (st := st) hq102.1 (by omega) hab hpl.1 rfl; rw [h.2]; exact put_0 hq116 hMH2 h.1))
      · have hk9 := hD9 p9 (by omega) (by omega)
        have ho9 := hok p9 (by omega) (by omega)
        have hN9 := nuN_s (D := D) (p := 0) hp.1
        have hS9 := nuS_s (D := D) (p := 0) hp.1
        have hP9 := nuP_s (D := D) (p := 0) hp.1
        rw [Int.zero_add] at hN9 hS9 hP9 ho9
        have hb9 := nuN_b hok p9 hp.1 (by omega)
        have hz9 := M_sz hJ hb9.2 hp.1
        refine lv_aload_n hx hb dMo_numeral_21 rfl (lv_at hl 3 rfl) ?_
        refine va_get (D := (dC, dI)) (ci := 7) (v := .ref (mo + 11)) (C := "MacroReckonerModel") (T := TMo) (N := 23) hx hb hts inMo hown hK hP 0 rfl rfl 19 (by decide) (hts _ wt4_77) (fun _ h9 => h9) rfl dMo_numeral_22 ?_
        refine lv_iload_n hx hb dMo_numeral_25 rfl (lv_at hl 0 rfl) ?_
        refine iv_iald hx hb hK hP 11 0 rfl rfl (by decide) dMo_numeral_26 (by omega) (by omega) ?_
        refine lv_istore (lv' := [(4, .int (iI (mK p9))), (3, .int (iI p9)), (2, .int (iI pt)), (1, .int (iI pl)), (0, .ref mo)]) hx hb dMo_numeral_27 hl (by decide) rfl (fun ls hl => ?_)
        obtain ⟨c9, e_c9⟩ : ∃ z : Int, z = mK p9 := ⟨_, rfl⟩
        have hl : lv_has ls 5 [(4, .int (iI c9)), (3, .int (iI p9)), (2, .int (iI pt)), (1, .int (iI pl)), (0, .ref mo)] := by rw [e_c9]; exact hl
        refine lv_iload_n hx hb dMo_numeral_29 rfl (lv_at hl 2 rfl) ?_
        refine iv_if_ne (tgt := 40) hx hb dMo_numeral_30 (by decide) ⟨by omega, by omega⟩ (fun hc30 => ?_) (fun hc30 => ?_)
        · refine lv_iconst (v := iI 1) hx hb dMo_numeral_40 rfl ?_
          refine lv_goto (tgt := 45) hx hb dMo_numeral_41 (by decide) ?_
          refine lv_istore_n (lv' := [(2, .int (iI 1)), (4, .int (iI c9)), (3, .int (iI p9)), (1, .int (iI pl)), (0, .ref mo)]) hx hb dMo_numeral_45 rfl hl (by decide) rfl (fun ls hl => ?_)
          refine lv_iload hx hb dMo_numeral_46 (lv_at hl 1 rfl) ?_
          refine cv_i (va_runS (As := [.int (iI c9)]) (rest := []) ⟨hx, hb, hml, hown, hts⟩ (cMo_isDigit l dC dI dA c9 (by omega) H.size) (cwS 1 hts (gdS wt4_160 wt4_161 wt1_8 wt4_162) rfl rfl rfl ⟨rfl, by decide, by decide, by decide +kernel⟩ ⟨by decide, by decide⟩) (preS hK hP hD hS hA XN_ok trivial [] rfl rfl) rfl rfl hl.1 rfl (lv_room (Nat.le_of_ble_eq_true rfl)) dMo_numeral_48 ⟨Nat.zero_le _, Nat.zero_le _⟩) hP hD hS hA [] [0, 1, 2, 3, 4, 5, 6, 7, 8, 9, 10, 11, 12, 13] rfl (fun v_ => wMo dA mo ft lf hg kk tx pn tk fm tO tl mI mT mS mC mL mB mF mU mX mP mK D9 Z9 []) (fun _ => rfl) (wMo dA mo ft lf hg kk tx pn tk fm tO tl mI mT mS mC mL mB mF mU mX mP mK D9 Z9 []) rfl (fun _ => rfl) [mo, mo + 1, mo + 2, mo + 3, mo + 4, mo + 5, mo + 6, mo + 7, mo + 8, mo + 9, mo + 10, mo + 11, mo + 12, mo + 13] rfl (fun _ => rfl) (fun _ => rfl) (fun r48 u_ H locs hq48 hP hD hS => ?_)
          have hP : va_P (dC, dI) vwCl (wMo dA mo ft lf hg kk tx pn tk fm tO tl mI mT mS mC mL mB mF mU mX mP mK D9 Z9 []) H := hP
          have hD : va_D A (wMo dA mo ft lf hg kk tx pn tk fm tO tl mI mT mS mC mL mB mF mU mX mP mK D9 Z9 []) := hD
          have hq48 : (r48 = 1 ∧ 48 ≤ c9 ∧ c9 ≤ 57) ∨ (r48 = 0 ∧ (c9 < 48 ∨ 57 < c9)) := hq48
          refine iv_if_eq (tgt := 77) hx hb dMo_numeral_51 (by decide) ⟨by omega, by omega⟩ (fun hc51 => ?_) (fun hc51 => ?_)
          · refine lv_iinc (k := 2) (lv' := [(3, .int (iI (p9 + 1))), (2, .int (iI 1)), (4, .int (iI c9)), (1, .int (iI pl)), (0, .ref mo)]) (v := iI (p9 + 1)) hx hb dMo_numeral_77 hl rfl (iI_add _ _).symm (by decide) rfl (fun ls hl => ?_)
            refine lv_goto (tgt := 13) hx hb dMo_numeral_80 (by decide) ?_
            exact ih13 D9 Z9 pl 1 (p9 + 1) H locs ls (by omega) (by first | (rw [hN9, if_neg (by omega), ← hk9, ← e_c9]; exact (hq62.1.resolve_right (fun z => by omega)).2) | (rw [hN9, if_pos (by omega)]; exact hJ)) (by first | (rw [hS9, if_neg (by omega)]; omega) | (rw [hS9, if_pos (by omega)]; omega)) (by by_cases z : D p9 = 46; (rw [hP9, if_pos z]; omega); (rw [hP9, if_neg z]; omega)) (by omega) hP hD hS (lv_sub hl [0, 1, 3, 4] rfl)
          · refine lv_aload_n hx hb dMo_numeral_54 rfl (lv_at hl 4 rfl) ?_
            refine lv_iconst (v := iI 0) hx hb dMo_numeral_55 rfl ?_
            refine lv_iconst (v := iI (-1)) hx hb dMo_numeral_56 rfl ?_
            refine lv_iload hx hb dMo_numeral_57 (lv_at hl 1 rfl) ?_
            refine lv_bipush (v := iI 48) hx hb dMo_numeral_59 (by decide) ?_
            refine iv_isub hx hb dMo_numeral_61 ?_
            refine cv_v (va_runV (C := "MacroReckonerModel") (As := [.int (iI 0), .int (iI (-1)), .int (iI (c9 - 48))]) (rest := []) ⟨hx, hb, hml, hown, hts⟩ (cMo_append l dC dI dA mo ft lf hg kk tx pn tk fm tO tl mI mT mS mC mL mB mF mU mX mP mK D9 Z9 0 (-1) (c9 - 48) (nuN D 0 p9.toNat) (by omega) (by omega) (by exact hJ) H.size) (cwV 3 hts (gdV wt4_187 wt4_189 ws4_1 wt1_8 wt4_190) rfl rfl rfl ⟨rfl, by decide, by decide, by decide +kernel⟩ ⟨by decide, by decide⟩) (preV (q := ("MacroReckonerModel", TMo, 23)) hK hP hD hS hA XN_ok trivial [0, 1, 2, 3, 4, 5, 6, 7, 8, 9, 10, 11, 12, 13] rfl rfl 0 rfl rfl) rfl rfl hl.1 rfl (lv_room (Nat.le_of_ble_eq_true rfl)) dMo_numeral_62 ⟨Nat.zero_le _, Nat.zero_le _⟩) hP hD hS hA [0, 1, 2, 3, 4, 5, 6, 7, 8, 9, 10, 11, 12, 13] [] rfl (fun v_ => wMo dA mo ft lf hg kk tx pn tk fm tO tl mI mT mS mC mL mB mF mU mX mP mK v_.1 v_.2 []) (fun _ => rfl) ([] : va_W) rfl (fun _ => rfl) [mo, mo + 1, mo + 2, mo + 3, mo + 4, mo + 5, mo + 6, mo + 7, mo + 8, mo + 9, mo + 10, mo + 11, mo + 12, mo + 13] rfl (fun _ => rfl) (fun _ => rfl) (fun u_ H locs hq62 hP hD hS => ?_)
            obtain ⟨D1_62, Z1_62⟩ := u_
            have hP : va_P (dC, dI) vwCl (wMo dA mo ft lf hg kk tx pn tk fm tO tl mI mT mS mC mL mB mF mU mX mP mK D1_62 Z1_62 []) H := hP
            have hD : va_D A (wMo dA mo ft lf hg kk tx pn tk fm tO tl mI mT mS mC mL mB mF mU mX mP mK D1_62 Z1_62 []) := hD
            have hq62 : (((-1) < 0 ∧ MR D1_62 Z1_62 0 ((nuN D 0 p9.toNat) * 10 + (c9 - 48))) ∨ (0 ≤ (-1) ∧ MR D1_62 Z1_62 0 ((nuN D 0 p9.toNat) * PW 10 (-1)))) ∧ others D9 Z9 D1_62 Z1_62 0 := hq62
            refine lv_iload_n hx hb dMo_numeral_65 rfl (lv_at hl 0 rfl) ?_
            refine iv_if_eq (tgt := 75) hx hb dMo_numeral_66 (by decide) ⟨by decide, by decide⟩ (fun hc66 => absurd hc66 (by omega)) (fun hc66 => ?_)
            refine lv_iload_n hx hb dMo_numeral_69 rfl (lv_at hl 3 rfl) ?_
            refine lv_iconst (v := iI 1) hx hb dMo_numeral_70 rfl ?_
            refine iv_iadd hx hb dMo_numeral_71 ?_
            refine lv_goto (tgt := 76) hx hb dMo_numeral_72 (by decide) ?_
            refine lv_istore_n (lv' := [(1, .int (iI (pl + 1))), (2, .int (iI 1)), (4, .int (iI c9)), (3, .int (iI p9)), (0, .ref mo)]) hx hb dMo_numeral_76 rfl hl (by decide) rfl (fun ls hl => ?_)
            refine lv_iinc (k := 3) (lv' := [(3, .int (iI (p9 + 1))), (1, .int (iI (pl + 1))), (2, .int (iI 1)), (4, .int (iI c9)), (0, .ref mo)]) (v := iI (p9 + 1)) hx hb dMo_numeral_77 hl rfl (iI_add _ _).symm (by decide) rfl (fun ls hl => ?_)
            refine lv_goto (tgt := 13) hx hb dMo_numeral_80 (by decide) ?_
            exact ih13 D1_62 Z1_62 (pl + 1) 1 (p9 + 1) H locs ls (by omega) (by first | (rw [hN9, if_neg (by omega), ← hk9, ← e_c9]; exact (hq62.1.resolve_right (fun z => by omega)).2) | (rw [hN9, if_pos (by omega)]; exact hJ)) (by first | (rw [hS9, if_neg (by omega)]; omega) | (rw [hS9, if_pos (by omega)]; omega)) (by by_cases z : D p9 = 46; (rw [hP9, if_pos z]; omega); (rw [hP9, if_neg z]; omega)) (by omega) hP hD hS (lv_sub hl [0, 2, 1, 4] rfl)
        · refine lv_iload hx hb dMo_numeral_33 (lv_at hl 0 rfl) ?_
          refine lv_bipush (v := iI 46) hx hb dMo_numeral_35 (by decide) ?_
          refine iv_icmp_ne (tgt := 44) hx hb dMo_numeral_37 (by decide) ⟨by omega, by omega⟩ ⟨by decide, by decide⟩ (fun hc37 => ?_) (fun hc37 => ?_)
          · refine lv_iconst (v := iI 0) hx hb dMo_numeral_44 rfl ?_
            refine lv_istore_n (lv' := [(2, .int (iI 0)), (4, .int (iI c9)), (3, .int (iI p9)), (1, .int (iI pl)), (0, .ref mo)]) hx hb dMo_numeral_45 rfl hl (by decide) rfl (fun ls hl => ?_)
            refine lv_iload hx hb dMo_numeral_46 (lv_at hl 1 rfl) ?_
            refine cv_i (va_runS (As := [.int (iI c9)]) (rest := []) ⟨hx, hb, hml, hown, hts⟩ (cMo_isDigit l dC dI dA c9 (by omega) H.size) (cwS 1 hts (gdS wt4_160 wt4_161 wt1_8 wt4_162) rfl rfl rfl ⟨rfl, by decide, by decide, by decide +kernel⟩ ⟨by decide, by decide⟩) (preS hK hP hD hS hA XN_ok trivial [] rfl rfl) rfl rfl hl.1 rfl (lv_room (Nat.le_of_ble_eq_true rfl)) dMo_numeral_48 ⟨Nat.zero_le _, Nat.zero_le _⟩) hP hD hS hA [] [0, 1, 2, 3, 4, 5, 6, 7, 8, 9, 10, 11, 12, 13] rfl (fun v_ => wMo dA mo ft lf hg kk tx pn tk fm tO tl mI mT mS mC mL mB mF mU mX mP mK D9 Z9 []) (fun _ => rfl) (wMo dA mo ft lf hg kk tx pn tk fm tO tl mI mT mS mC mL mB mF mU mX mP mK D9 Z9 []) rfl (fun _ => rfl) [mo, mo + 1, mo + 2, mo + 3, mo + 4, mo + 5, mo + 6, mo + 7, mo + 8, mo + 9, mo + 10, mo + 11, mo + 12, mo + 13] rfl (fun _ => rfl) (fun _ => rfl) (fun r48 u_ H locs hq48 hP hD hS => ?_)
            have hP : va_P (dC, dI) vwCl (wMo dA mo ft lf hg kk tx pn tk fm tO tl mI mT mS mC mL mB mF mU mX mP mK D9 Z9 []) H := hP
            have hD : va_D A (wMo dA mo ft lf hg kk tx pn tk fm tO tl mI mT mS mC mL mB mF mU mX mP mK D9 Z9 []) := hD
            have hq48 : (r48 = 1 ∧ 48 ≤ c9 ∧ c9 ≤ 57) ∨ (r48 = 0 ∧ (c9 < 48 ∨ 57 < c9)) := hq48
            refine iv_if_eq (tgt := 77) hx hb dMo_numeral_51 (by decide) ⟨by omega, by omega⟩ (fun hc51 => ?_) (fun hc51 => ?_)
            · refine lv_iinc (k := 2) (lv' := [(3, .int (iI (p9 + 1))), (2, .int (iI 0)), (4, .int (iI c9)), (1, .int (iI pl)), (0, .ref mo)]) (v := iI (p9 + 1)) hx hb dMo_numeral_77 hl rfl (iI_add _ _).symm (by decide) rfl (fun ls hl => ?_)
              refine lv_goto (tgt := 13) hx hb dMo_numeral_80 (by decide) ?_
              exact ih13 D9 Z9 pl 0 (p9 + 1) H locs ls (by omega) (by first | (rw [hN9, if_neg (by omega), ← hk9, ← e_c9]; exact (hq62.1.resolve_right (fun z => by omega)).2) | (rw [hN9, if_pos (by omega)]; exact hJ)) (by first | (rw [hS9, if_neg (by omega)]; omega) | (rw [hS9, if_pos (by omega)]; omega)) (by by_cases z : D p9 = 46; (rw [hP9, if_pos z]; omega); (rw [hP9, if_neg z]; omega)) (by omega) hP hD hS (lv_sub hl [0, 1, 3, 4] rfl)
            · refine lv_aload_n hx hb dMo_numeral_54 rfl (lv_at hl 4 rfl) ?_
              refine lv_iconst (v := iI 0) hx hb dMo_numeral_55 rfl ?_
              refine lv_iconst (v := iI (-1)) hx hb dMo_numeral_56 rfl ?_
              refine lv_iload hx hb dMo_numeral_57 (lv_at hl 1 rfl) ?_
              refine lv_bipush (v := iI 48) hx hb dMo_numeral_59 (by decide) ?_
              refine iv_isub hx hb dMo_numeral_61 ?_
              refine cv_v (va_runV (C := "MacroReckonerModel") (As := [.int (iI 0), .int (iI (-1)), .int (iI (c9 - 48))]) (rest := []) ⟨hx, hb, hml, hown, hts⟩ (cMo_append l dC dI dA mo ft lf hg kk tx pn tk fm tO tl mI mT mS mC mL mB mF mU mX mP mK D9 Z9 0 (-1) (c9 - 48) (nuN D 0 p9.toNat) (by omega) (by omega) (by exact hJ) H.size) (cwV 3 hts (gdV wt4_187 wt4_189 ws4_1 wt1_8 wt4_190) rfl rfl rfl ⟨rfl, by decide, by decide, by decide +kernel⟩ ⟨by decide, by decide⟩) (preV (q := ("MacroReckonerModel", TMo, 23)) hK hP hD hS hA XN_ok trivial [0, 1, 2, 3, 4, 5, 6, 7, 8, 9, 10, 11, 12, 13] rfl rfl 0 rfl rfl) rfl rfl hl.1 rfl (lv_room (Nat.le_of_ble_eq_true rfl)) dMo_numeral_62 ⟨Nat.zero_le _, Nat.zero_le _⟩) hP hD hS hA [0, 1, 2, 3, 4, 5, 6, 7, 8, 9, 10, 11, 12, 13] [] rfl (fun v_ => wMo dA mo ft lf hg kk tx pn tk fm tO tl mI mT mS mC mL mB mF mU mX mP mK v_.1 v_.2 []) (fun _ => rfl) ([] : va_W) rfl (fun _ => rfl) [mo, mo + 1, mo + 2, mo + 3, mo + 4, mo + 5, mo + 6, mo + 7, mo + 8, mo + 9, mo + 10, mo + 11, mo + 12, mo + 13] rfl (fun _ => rfl) (fun _ => rfl) (fun u_ H locs hq62 hP hD hS => ?_)
              obtain ⟨D1_62, Z1_62⟩ := u_
              have hP : va_P (dC, dI) vwCl (wMo dA mo ft lf hg kk tx pn tk fm tO tl mI mT mS mC mL mB mF mU mX mP mK D1_62 Z1_62 []) H := hP
              have hD : va_D A (wMo dA mo ft lf hg kk tx pn tk fm tO tl mI mT mS mC mL mB mF mU mX mP mK D1_62 Z1_62 []) := hD
              have hq62 : (((-1) < 0 ∧ MR D1_62 Z1_62 0 ((nuN D 0 p9.toNat) * 10 + (c9 - 48))) ∨ (0 ≤ (-1) ∧ MR D1_62 Z1_62 0 ((nuN D 0 p9.toNat) * PW 10 (-1)))) ∧ others D9 Z9 D1_62 Z1_62 0 := hq62
              refine lv_iload_n hx hb dMo_numeral_65 rfl (lv_at hl 0 rfl) ?_
              refine iv_if_eq (tgt := 75) hx hb dMo_numeral_66 (by decide) ⟨by decide, by decide⟩ (fun hc66 => ?_) (fun hc66 => absurd hc66 (by omega))
              refine lv_iload_n hx hb dMo_numeral_75 rfl (lv_at hl 3 rfl) ?_
              refine lv_istore_n (lv' := [(1, .int (iI pl)), (2, .int (iI 0)), (4, .int (iI c9)), (3, .int (iI p9)), (0, .ref mo)]) hx hb dMo_numeral_76 rfl hl (by decide) rfl (fun ls hl => ?_)
              refine lv_iinc (k := 3) (lv' := [(3, .int (iI (p9 + 1))), (1, .int (iI pl)), (2, .int (iI 0)), (4, .int (iI c9)), (0, .ref mo)]) (v := iI (p9 + 1)) hx hb dMo_numeral_77 hl rfl (iI_add _ _).symm (by decide) rfl (fun ls hl => ?_)
              refine lv_goto (tgt := 13) hx hb dMo_numeral_80 (by decide) ?_
              exact ih13 D1_62 Z1_62 pl 0 (p9 + 1) H locs ls (by omega) (by first | (rw [hN9, if_neg (by omega), ← hk9, ← e_c9]; exact (hq62.1.resolve_right (fun z => by omega)).2) | (rw [hN9, if_pos (by omega)]; exact hJ)) (by first | (rw [hS9, if_neg (by omega)]; omega) | (rw [hS9, if_pos (by omega)]; omega)) (by by_cases z : D p9 = 46; (rw [hP9, if_pos z]; omega); (rw [hP9, if_neg z]; omega)) (by omega) hP hD hS (lv_sub hl [0, 2, 1, 4] rfl)
          · refine lv_iconst (v := iI 1) hx hb dMo_numeral_40 rfl ?_
            refine lv_goto (tgt := 45) hx hb dMo_numeral_41 (by decide) ?_
            refine lv_istore_n (lv' := [(2, .int (iI 1)), (4, .int (iI c9)), (3, .int (iI p9)), (1, .int (iI pl)), (0, .ref mo)]) hx hb dMo_numeral_45 rfl hl (by decide) rfl (fun ls hl => ?_)
            refine lv_iload hx hb dMo_numeral_46 (lv_at hl 1 rfl) ?_
            refine cv_i (va_runS (As := [.int (iI c9)]) (rest := []) ⟨hx, hb, hml, hown, hts⟩ (cMo_isDigit l dC dI dA c9 (by omega) H.size) (cwS 1 hts (gdS wt4_160 wt4_161 wt1_8 wt4_162) rfl rfl rfl ⟨rfl, by decide, by decide, by decide +kernel⟩ ⟨by decide, by decide⟩) (preS hK hP hD hS hA XN_ok trivial [] rfl rfl) rfl rfl hl.1 rfl (lv_room (Nat.le_of_ble_eq_true rfl)) dMo_numeral_48 ⟨Nat.zero_le _, Nat.zero_le _⟩) hP hD hS hA [] [0, 1, 2, 3, 4, 5, 6, 7, 8, 9, 10, 11, 12, 13] rfl (fun v_ => wMo dA mo ft lf hg kk tx pn tk fm tO tl mI mT mS mC mL mB mF mU mX mP mK D9 Z9 []) (fun _ => rfl) (wMo dA mo ft lf hg kk tx pn tk fm tO tl mI mT mS mC mL mB mF mU mX mP mK D9 Z9 []) rfl (fun _ => rfl) [mo, mo + 1, mo + 2, mo + 3, mo + 4, mo + 5, mo + 6, mo + 7, mo + 8, mo + 9, mo + 10, mo + 11, mo + 12, mo + 13] rfl (fun _ => rfl) (fun _ => rfl) (fun r48 u_ H locs hq48 hP hD hS => ?_)
            have hP : va_P (dC, dI) vwCl (wMo dA mo ft lf hg kk tx pn tk fm tO tl mI mT mS mC mL mB mF mU mX mP mK D9 Z9 []) H := hP
            have hD : va_D A (wMo dA mo ft lf hg kk tx pn tk fm tO tl mI mT mS mC mL mB mF mU mX mP mK D9 Z9 []) := hD
            have hq48 : (r48 = 1 ∧ 48 ≤ c9 ∧ c9 ≤ 57) ∨ (r48 = 0 ∧ (c9 < 48 ∨ 57 < c9)) := hq48
            refine iv_if_eq (tgt := 77) hx hb dMo_numeral_51 (by decide) ⟨by omega, by omega⟩ (fun hc51 => ?_) (fun hc51 => ?_)
            · refine lv_iinc (k := 2) (lv' := [(3, .int (iI (p9 + 1))), (2, .int (iI 1)), (4, .int (iI c9)), (1, .int (iI pl)), (0, .ref mo)]) (v := iI (p9 + 1)) hx hb dMo_numeral_77 hl rfl (iI_add _ _).symm (by decide) rfl (fun ls hl => ?_)
              refine lv_goto (tgt := 13) hx hb dMo_numeral_80 (by decide) ?_
              exact ih13 D9 Z9 pl 1 (p9 + 1) H locs ls (by omega) (by first | (rw [hN9, if_neg (by omega), ← hk9, ← e_c9]; exact (hq62.1.resolve_right (fun z => by omega)).2) | (rw [hN9, if_pos (by omega)]; exact hJ)) (by first | (rw [hS9, if_neg (by omega)]; omega) | (rw [hS9, if_pos (by omega)]; omega)) (by by_cases z : D p9 = 46; (rw [hP9, if_pos z]; omega); (rw [hP9, if_neg z]; omega)) (by omega) hP hD hS (lv_sub hl [0, 1, 3, 4] rfl)
            · refine lv_aload_n hx hb dMo_numeral_54 rfl (lv_at hl 4 rfl) ?_
              refine lv_iconst (v := iI 0) hx hb dMo_numeral_55 rfl ?_
              refine lv_iconst (v := iI (-1)) hx hb dMo_numeral_56 rfl ?_
              refine lv_iload hx hb dMo_numeral_57 (lv_at hl 1 rfl) ?_
              refine lv_bipush (v := iI 48) hx hb dMo_numeral_59 (by decide) ?_
              refine iv_isub hx hb dMo_numeral_61 ?_
              refine cv_v (va_runV (C := "MacroReckonerModel") (As := [.int (iI 0), .int (iI (-1)), .int (iI (c9 - 48))]) (rest := []) ⟨hx, hb, hml, hown, hts⟩ (cMo_append l dC dI dA mo ft lf hg kk tx pn tk fm tO tl mI mT mS mC mL mB mF mU mX mP mK D9 Z9 0 (-1) (c9 - 48) (nuN D 0 p9.toNat) (by omega) (by omega) (by exact hJ) H.size) (cwV 3 hts (gdV wt4_187 wt4_189 ws4_1 wt1_8 wt4_190) rfl rfl rfl ⟨rfl, by decide, by decide, by decide +kernel⟩ ⟨by decide, by decide⟩) (preV (q := ("MacroReckonerModel", TMo, 23)) hK hP hD hS hA XN_ok trivial [0, 1, 2, 3, 4, 5, 6, 7, 8, 9, 10, 11, 12, 13] rfl rfl 0 rfl rfl) rfl rfl hl.1 rfl (lv_room (Nat.le_of_ble_eq_true rfl)) dMo_numeral_62 ⟨Nat.zero_le _, Nat.zero_le _⟩) hP hD hS hA [0, 1, 2, 3, 4, 5, 6, 7, 8, 9, 10, 11, 12, 13] [] rfl (fun v_ => wMo dA mo ft lf hg kk tx pn tk fm tO tl mI mT mS mC mL mB mF mU mX mP mK v_.1 v_.2 []) (fun _ => rfl) ([] : va_W) rfl (fun _ => rfl) [mo, mo + 1, mo + 2, mo + 3, mo + 4, mo + 5, mo + 6, mo + 7, mo + 8, mo + 9, mo + 10, mo + 11, mo + 12, mo + 13] rfl (fun _ => rfl) (fun _ => rfl) (fun u_ H locs hq62 hP hD hS => ?_)
              obtain ⟨D1_62, Z1_62⟩ := u_
              have hP : va_P (dC, dI) vwCl (wMo dA mo ft lf hg kk tx pn tk fm tO tl mI mT mS mC mL mB mF mU mX mP mK D1_62 Z1_62 []) H := hP
              have hD : va_D A (wMo dA mo ft lf hg kk tx pn tk fm tO tl mI mT mS mC mL mB mF mU mX mP mK D1_62 Z1_62 []) := hD
              have hq62 : (((-1) < 0 ∧ MR D1_62 Z1_62 0 ((nuN D 0 p9.toNat) * 10 + (c9 - 48))) ∨ (0 ≤ (-1) ∧ MR D1_62 Z1_62 0 ((nuN D 0 p9.toNat) * PW 10 (-1)))) ∧ others D9 Z9 D1_62 Z1_62 0 := hq62
              refine lv_iload_n hx hb dMo_numeral_65 rfl (lv_at hl 0 rfl) ?_
              refine iv_if_eq (tgt := 75) hx hb dMo_numeral_66 (by decide) ⟨by decide, by decide⟩ (fun hc66 => absurd hc66 (by omega)) (fun hc66 => ?_)
              refine lv_iload_n hx hb dMo_numeral_69 rfl (lv_at hl 3 rfl) ?_
              refine lv_iconst (v := iI 1) hx hb dMo_numeral_70 rfl ?_
              refine iv_iadd hx hb dMo_numeral_71 ?_
              refine lv_goto (tgt := 76) hx hb dMo_numeral_72 (by decide) ?_
              refine lv_istore_n (lv' := [(1, .int (iI (pl + 1))), (2, .int (iI 1)), (4, .int (iI c9)), (3, .int (iI p9)), (0, .ref mo)]) hx hb dMo_numeral_76 rfl hl (by decide) rfl (fun ls hl => ?_)
              refine lv_iinc (k := 3) (lv' := [(3, .int (iI (p9 + 1))), (1, .int (iI (pl + 1))), (2, .int (iI 1)), (4, .int (iI c9)), (0, .ref mo)]) (v := iI (p9 + 1)) hx hb dMo_numeral_77 hl rfl (iI_add _ _).symm (by decide) rfl (fun ls hl => ?_)
              refine lv_goto (tgt := 13) hx hb dMo_numeral_80 (by decide) ?_
              exact ih13 D1_62 Z1_62 (pl + 1) 1 (p9 + 1) H locs ls (by omega) (by first | (rw [hN9, if_neg (by omega), ← hk9, ← e_c9]; exact (hq62.1.resolve_right (fun z => by omega)).2) | (rw [hN9, if_pos (by omega)]; exact hJ)) (by first | (rw [hS9, if_neg (by omega)]; omega) | (rw [hS9, if_pos (by omega)]; omega)) (by by_cases z : D p9 = 46; (rw [hP9, if_pos z]; omega); (rw [hP9, if_neg z]; omega)) (by omega) hP hD hS (lv_sub hl [0, 2, 1, 4] rfl)
  exact L13 _ mD (up mZ 0 0) 0 0 0 H locs ls (by omega) (by exact MR_0) (by exact ⟨rfl, by omega, by omega⟩) (by exact ⟨rfl, Or.inl rfl⟩) (Nat.lt_succ_self _) hP hD hS (lv_sub hl [0, 1, 2, 3] rfl)

theorem dMo_text_0 : decode prog_9_method_44_code 0 = .ok (.aload_n 0, 1) := by decide +kernel
theorem dMo_text_1 : decode prog_9_method_44_code 1 = .ok (.getfield 154, 3) := by decide +kernel
theorem dMo_text_4 : decode prog_9_method_44_code 4 = .ok (.bipush 62, 2) := by decide +kernel
theorem dMo_text_6 : decode prog_9_method_44_code 6 = .ok (.if_icmp .le 6, 3) := by decide +kernel
theorem dMo_text_9 : decode prog_9_method_44_code 9 = .ok (.bipush (-7), 2) := by decide +kernel
theorem dMo_text_11 : decode prog_9_method_44_code 11 = .ok (.ireturn, 1) := by decide +kernel
theorem dMo_text_12 : decode prog_9_method_44_code 12 = .ok (.aload_n 0, 1) := by decide +kernel
theorem dMo_text_13 : decode prog_9_method_44_code 13 = .ok (.getfield 13, 3) := by decide +kernel
theorem dMo_text_16 : decode prog_9_method_44_code 16 = .ok (.bipush 46, 2) := by decide +kernel
theorem dMo_text_18 : decode prog_9_method_44_code 18 = .ok (.iconst 1, 1) := by decide +kernel
theorem dMo_text_19 : decode prog_9_method_44_code 19 = .ok (.bastore, 1) := by decide +kernel
theorem dMo_text_20 : decode prog_9_method_44_code 20 = .ok (.aload_n 0, 1) := by decide +kernel
theorem dMo_text_21 : decode prog_9_method_44_code 21 = .ok (.getfield 17, 3) := by decide +kernel
theorem dMo_text_24 : decode prog_9_method_44_code 24 = .ok (.bipush 46, 2) := by decide +kernel
theorem dMo_text_26 : decode prog_9_method_44_code 26 = .ok (.iconst 0, 1) := by decide +kernel
theorem dMo_text_27 : decode prog_9_method_44_code 27 = .ok (.iastore, 1) := by decide +kernel
theorem dMo_text_28 : decode prog_9_method_44_code 28 = .ok (.aload_n 0, 1) := by decide +kernel
theorem dMo_text_29 : decode prog_9_method_44_code 29 = .ok (.getfield 20, 3) := by decide +kernel
theorem dMo_text_32 : decode prog_9_method_44_code 32 = .ok (.bipush 46, 2) := by decide +kernel
theorem dMo_text_34 : decode prog_9_method_44_code 34 = .ok (.iconst 0, 1) := by decide +kernel
theorem dMo_text_35 : decode prog_9_method_44_code 35 = .ok (.iastore, 1) := by decide +kernel
theorem dMo_text_36 : decode prog_9_method_44_code 36 = .ok (.aload_n 0, 1) := by decide +kernel
theorem dMo_text_37 : decode prog_9_method_44_code 37 = .ok (.getfield 23, 3) := by decide +kernel
theorem dMo_text_40 : decode prog_9_method_44_code 40 = .ok (.bipush 46, 2) := by decide +kernel
theorem dMo_text_42 : decode prog_9_method_44_code 42 = .ok (.aload_n 0, 1) := by decide +kernel
theorem dMo_text_43 : decode prog_9_method_44_code 43 = .ok (.getfield 154, 3) := by decide +kernel
theorem dMo_text_46 : decode prog_9_method_44_code 46 = .ok (.iconst 2, 1) := by decide +kernel
theorem dMo_text_47 : decode prog_9_method_44_code 47 = .ok (.isub, 1) := by decide +kernel
theorem dMo_text_48 : decode prog_9_method_44_code 48 = .ok (.iastore, 1) := by decide +kernel
theorem dMo_text_49 : decode prog_9_method_44_code 49 = .ok (.iconst 1, 1) := by decide +kernel
theorem dMo_text_50 : decode prog_9_method_44_code 50 = .ok (.istore_n 1, 1) := by decide +kernel
theorem dMo_text_51 : decode prog_9_method_44_code 51 = .ok (.iload_n 1, 1) := by decide +kernel
theorem dMo_text_52 : decode prog_9_method_44_code 52 = .ok (.iconst 1, 1) := by decide +kernel
theorem dMo_text_53 : decode prog_9_method_44_code 53 = .ok (.iadd, 1) := by decide +kernel
theorem dMo_text_54 : decode prog_9_method_44_code 54 = .ok (.aload_n 0, 1) := by decide +kernel
theorem dMo_text_55 : decode prog_9_method_44_code 55 = .ok (.getfield 154, 3) := by decide +kernel
theorem dMo_text_58 : decode prog_9_method_44_code 58 = .ok (.if_icmp .ge 25, 3) := by decide +kernel
theorem dMo_text_61 : decode prog_9_method_44_code 61 = .ok (.aload_n 0, 1) := by decide +kernel
theorem dMo_text_62 : decode prog_9_method_44_code 62 = .ok (.getfield 26, 3) := by decide +kernel
theorem dMo_text_65 : decode prog_9_method_44_code 65 = .ok (.sipush 2759, 3) := by decide +kernel
theorem dMo_text_68 : decode prog_9_method_44_code 68 = .ok (.iload_n 1, 1) := by decide +kernel
theorem dMo_text_69 : decode prog_9_method_44_code 69 = .ok (.iadd, 1) := by decide +kernel
theorem dMo_text_70 : decode prog_9_method_44_code 70 = .ok (.aload_n 0, 1) := by decide +kernel
theorem dMo_text_71 : decode prog_9_method_44_code 71 = .ok (.getfield 41, 3) := by decide +kernel
theorem dMo_text_74 : decode prog_9_method_44_code 74 = .ok (.iload_n 1, 1) := by decide +kernel
theorem dMo_text_75 : decode prog_9_method_44_code 75 = .ok (.iaload, 1) := by decide +kernel
theorem dMo_text_76 : decode prog_9_method_44_code 76 = .ok (.iastore, 1) := by decide +kernel
theorem dMo_text_77 : decode prog_9_method_44_code 77 = .ok (.iinc 1 1, 3) := by decide +kernel
theorem dMo_text_80 : decode prog_9_method_44_code 80 = .ok (.goto (-29), 3) := by decide +kernel
theorem dMo_text_83 : decode prog_9_method_44_code 83 = .ok (.aload_n 0, 1) := by decide +kernel
theorem dMo_text_84 : decode prog_9_method_44_code 84 = .ok (.iconst 0, 1) := by decide +kernel
theorem dMo_text_85 : decode prog_9_method_44_code 85 = .ok (.invokevirtual 163, 3) := by decide +kernel
theorem dMo_text_88 : decode prog_9_method_44_code 88 = .ok (.ireturn, 1) := by decide +kernel
abbrev qMo_text (dC : Nat → ClassId) (dI : Nat → Nat → Nat) (dA : Nat → ClassId) (mo : Nat) (ft : Int) (lf : Int) (hg : Int) (kk : Int) (tx : Int) (pn : Int) (tk : Int) (fm : Int) (tO : Int) (tl : Int) (mI : Int → Int) (mT : Int → Int) (mS : Int → Int) (mC : Int → Int) (mL : Int → Int) (mB : Int → Int) (mF : Int → Int) (mU : Int → Int) (mX : Int → Int) (mP : Int → Int) (mK : Int → Int) (mD : Int → Int) (mZ : Int → Int) (st : AS) (D : Int → Int) (A : Nat → Prop) : Array Value → State → Outcome → State → Prop := QI (dC, dI) vwCl (tyA dA) (fun (r : Int) (v_ : (Int → Int) × (Int → Int) × (Int → Int) × (Int → Int) × (Int → Int) × Int) => r = (txtA st D tl).1 ∧ MH v_.1 v_.2.1 v_.2.2.1 v_.2.2.2.1 v_.2.2.2.2.1 v_.2.2.2.2.2 kk (txtA st D tl).2) (fun (v_ : (Int → Int) × (Int → Int) × (Int → Int) × (Int → Int) × (Int → Int) × Int) => wMo dA mo ft lf v_.2.2.2.2.2 kk tx pn tk fm tO tl mI v_.1 v_.2.1 v_.2.2.1 v_.2.2.2.1 v_.2.2.2.2.1 mF mU mX mP mK mD mZ []) A
abbrev rmMo_text : Room := { frames := 2, cells := 0, slots := 0, locals := 44 }
set_option maxRecDepth 100000 in
set_option maxHeartbeats 1000000 in
theorem cMo_text (l : Launch) (dC : Nat → ClassId) (dI : Nat → Nat → Nat) (dA : Nat → ClassId) (mo : Nat) (ft : Int) (lf : Int) (hg : Int) (kk : Int) (tx : Int) (pn : Int) (tk : Int) (fm : Int) (tO : Int) (tl : Int) (mI : Int → Int) (mT : Int → Int) (mS : Int → Int) (mC : Int → Int) (mL : Int → Int) (mB : Int → Int) (mF : Int → Int) (mU : Int → Int) (mX : Int → Int) (mP : Int → Int) (mK : Int → Int) (mD : Int → Int) (mZ : Int → Int) (st : AS) (D : Int → Int) (hMH : MH mT mS mC mL mB hg kk st) (htl : 2 ≤ tl ∧ tl ≤ 100) (hD9 : ∀ j, 0 ≤ j → j < tl → mK j = D j ∧ 32 ≤ D j ∧ D j ≤ 126) (sz : Nat) : Met l yMo_text wsMo_text rmMo_text (PC (dC, dI) vwCl (tyA dA) XN [.ref mo] (wMo dA mo ft lf hg kk tx pn tk fm tO tl mI mT mS mC mL mB mF mU mX mP mK mD mZ []) sz) (qMo_text dC dI dA mo ft lf hg kk tx pn tk fm tO tl mI mT mS mC mL mB mF mU mX mP mK mD mZ st D (va_A (wMo dA mo ft lf hg kk tx pn tk fm tO tl mI mT mS mC mL mB mF mU mX mP mK mD mZ []) sz)) 0 0 (va_A (wMo dA mo ft lf hg kk tx pn tk fm tO tl mI mT mS mC mL mB mF mU mX mP mK mD mZ []) sz) := by
  refine met_of (cc := prog_9_method_44_code) (maxL := 2) (ret := (some .int)) (Qc := qMo_text dC dI dA mo ft lf hg kk tx pn tk fm tO tl mI mT mS mC mL mB mF mU mX mP mK mD mZ st D) XN_ok (by decide) rfl (Nat.le_of_ble_eq_true rfl) ?_
  intro p e s m below meth c ls A hx hb hr hml hown hts hlocks hnm hK hP hD hA hX hS hl
  have hl : lv_has ls 2 [(0, .ref mo)] := hl
  have hown : s.vm.findClass "MacroReckonerModel" = some m.cls := hown
  obtain ⟨H, hH⟩ : ∃ H : Heap, H = s.heap := ⟨_, rfl⟩
  obtain ⟨locs, hlo⟩ : ∃ L : List Loc, L = [] := ⟨_, rfl⟩
  have hP : va_P (dC, dI) vwCl (wMo dA mo ft lf hg kk tx pn tk fm tO tl mI mT mS mC mL mB mF mU mX mP mK mD mZ []) H := hH ▸ hP
  have hS : va_S A s.heap H locs := by rw [hH, hlo]; exact hS
  suffices hgo : W p l e rmMo_text s m [.ref mo].toArray below meth c H locs 0 0 (MQ below (qMo_text dC dI dA mo ft lf hg kk tx pn tk fm tO tl mI mT mS mC mL mB mF mU mX mP mK mD mZ st D A) [.ref mo].toArray s 0 0 A) (F0 m 0 ls []) by rw [hH, hlo] at hgo; exact hgo
  clear hH hlo
  have hh := hMH.1
  refine lv_aload_n hx hb dMo_text_0 rfl (lv_at hl 0 rfl) ?_
  refine va_get (D := (dC, dI)) (ci := 7) (v := .int (iI tl)) (C := "MacroReckonerModel") (T := TMo) (N := 23) hx hb hts inMo hown hK hP 0 rfl rfl 20 (by decide) (hts _ wt4_78) (fun _ h9 => h9) rfl dMo_text_1 ?_
  refine lv_bipush (v := iI 62) hx hb dMo_text_4 (by decide) ?_
  refine iv_icmp_le (tgt := 12) hx hb dMo_text_6 (by decide) ⟨by omega, by omega⟩ ⟨by decide, by decide⟩ (fun hc6 => ?_) (fun hc6 => ?_)
  · refine lv_aload_n hx hb dMo_text_12 rfl (lv_at hl 0 rfl) ?_
    refine va_get (D := (dC, dI)) (ci := 7) (v := .ref (mo + 2)) (C := "MacroReckonerModel") (T := TMo) (N := 23) hx hb hts inMo hown hK hP 0 rfl rfl 3 (by decide) (hts _ wt4_61) (fun _ h9 => h9) rfl dMo_text_13 ?_
    refine lv_bipush (v := iI 46) hx hb dMo_text_16 (by decide) ?_
    refine lv_iconst (v := iI 1) hx hb dMo_text_18 rfl ?_
    refine iv_zast (v := 1) hx hb hK hP hD hS 2 2 rfl rfl (by decide) dMo_text_19 (by omega) (by omega) (by omega) (fun H locs hP hD hS => ?_)
    have hP : va_P (dC, dI) vwCl (wMo dA mo ft lf hg kk tx pn tk fm tO tl mI (up mT 46 1) mS mC mL mB mF mU mX mP mK mD mZ []) H := hP
    have hD : va_D A (wMo dA mo ft lf hg kk tx pn tk fm tO tl mI (up mT 46 1) mS mC mL mB mF mU mX mP mK mD mZ []) := hD
    refine lv_aload_n hx hb dMo_text_20 rfl (lv_at hl 0 rfl) ?_
    refine va_get (D := (dC, dI)) (ci := 7) (v := .ref (mo + 3)) (C := "MacroReckonerModel") (T := TMo) (N := 23) hx hb hts inMo hown hK hP 0 rfl rfl 4 (by decide) (hts _ wt4_62) (fun _ h9 => h9) rfl dMo_text_21 ?_
    refine lv_bipush (v := iI 46) hx hb dMo_text_24 (by decide) ?_
    refine lv_iconst (v := iI 0) hx hb dMo_text_26 rfl ?_
    refine iv_iast (v := 0) hx hb hK hP hD hS 3 0 rfl rfl (by decide) dMo_text_27 (by omega) (by omega) (fun H locs hP hD hS => ?_)
    have hP : va_P (dC, dI) vwCl (wMo dA mo ft lf hg kk tx pn tk fm tO tl mI (up mT 46 1) (up mS 46 0) mC mL mB mF mU mX mP mK mD mZ []) H := hP
    have hD : va_D A (wMo dA mo ft lf hg kk tx pn tk fm tO tl mI (up mT 46 1) (up mS 46 0) mC mL mB mF mU mX mP mK mD mZ []) := hD
    refine lv_aload_n hx hb dMo_text_28 rfl (lv_at hl 0 rfl) ?_
    refine va_get (D := (dC, dI)) (ci := 7) (v := .ref (mo + 4)) (C := "MacroReckonerModel") (T := TMo) (N := 23) hx hb hts inMo hown hK hP 0 rfl rfl 5 (by decide) (hts _ wt4_63) (fun _ h9 => h9) rfl dMo_text_29 ?_
    refine lv_bipush (v := iI 46) hx hb dMo_text_32 (by decide) ?_
    refine lv_iconst (v := iI 0) hx hb dMo_text_34 rfl ?_
    refine iv_iast (v := 0) hx hb hK hP hD hS 4 0 rfl rfl (by decide) dMo_text_35 (by omega) (by omega) (fun H locs hP hD hS => ?_)
    have hP : va_P (dC, dI) vwCl (wMo dA mo ft lf hg kk tx pn tk fm tO tl mI (up mT 46 1) (up mS 46 0) (up mC 46 0) mL mB mF mU mX mP mK mD mZ []) H := hP
    have hD : va_D A (wMo dA mo ft lf hg kk tx pn tk fm tO tl mI (up mT 46 1) (up mS 46 0) (up mC 46 0) mL mB mF mU mX mP mK mD mZ []) := hD
    refine lv_aload_n hx hb dMo_text_36 rfl (lv_at hl 0 rfl) ?_
    refine va_get (D := (dC, dI)) (ci := 7) (v := .ref (mo + 5)) (C := "MacroReckonerModel") (T := TMo) (N := 23) hx hb hts inMo hown hK hP 0 rfl rfl 6 (by decide) (hts _ wt4_64) (fun _ h9 => h9) rfl dMo_text_37 ?_
    refine lv_bipush (v := iI 46) hx hb dMo_text_40 (by decide) ?_
    refine lv_aload_n hx hb dMo_text_42 rfl (lv_at hl 0 rfl) ?_
    refine va_get (D := (dC, dI)) (ci := 7) (v := .int (iI tl)) (C := "MacroReckonerModel") (T := TMo) (N := 23) hx hb hts inMo hown hK hP 0 rfl rfl 20 (by decide) (hts _ wt4_78) (fun _ h9 => h9) rfl dMo_text_43 ?_
    refine lv_iconst (v := iI 2) hx hb dMo_text_46 rfl ?_
    refine iv_isub hx hb dMo_text_47 ?_
    refine iv_iast (v := tl - 2) hx hb hK hP hD hS 5 0 rfl rfl (by decide) dMo_text_48 (by omega) (by omega) (fun H locs hP hD hS => ?_)
    have hP : va_P (dC, dI) vwCl (wMo dA mo ft lf hg kk tx pn tk fm tO tl mI (up mT 46 1) (up mS 46 0) (up mC 46 0) (up mL 46 (tl - 2)) mB mF mU mX mP mK mD mZ []) H := hP
    have hD : va_D A (wMo dA mo ft lf hg kk tx pn tk fm tO tl mI (up mT 46 1) (up mS 46 0) (up mC 46 0) (up mL 46 (tl - 2)) mB mF mU mX mP mK mD mZ []) := hD
    refine lv_iconst (v := iI 1) hx hb dMo_text_49 rfl ?_
    refine lv_istore_n (lv' := [(1, .int (iI 1)), (0, .ref mo)]) hx hb dMo_text_50 rfl hl (by decide) rfl (fun ls hl => ?_)
    have L51 : ∀ (n : Nat) (B9 : Int → Int) (p9 : Int) (H : Heap) (locs : List Loc) (ls : Array Slot), (1 ≤ p9 ∧ p9 + 1 ≤ tl) → (∀ t, 1 ≤ t → t < p9 → B9 (2759 + t) = mK t) → (∀ p, p < 2760 ∨ 2820 ≤ p → B9 p = mB p) → (tl - p9).toNat < n → va_P (dC, dI) vwCl (wMo dA mo ft lf hg kk tx pn tk fm tO tl mI (up mT 46 1) (up mS 46 0) (up mC 46 0) (up mL 46 (tl - 2)) B9 mF mU mX mP mK mD mZ []) H → va_D A (wMo dA mo ft lf hg kk tx pn tk fm tO tl mI (up mT 46 1) (up mS 46 0) (up mC 46 0) (up mL 46 (tl - 2)) B9 mF mU mX mP mK mD mZ []) → va_S A s.heap H locs → lv_has ls 2 [(1, .int (iI p9)), (0, .ref mo)] → W p l e rmMo_text s m [.ref mo].toArray below meth c H locs 0 0 (MQ below (qMo_text dC dI dA mo ft lf hg kk tx pn tk fm tO tl mI mT mS mC mL mB mF mU mX mP mK mD mZ st D A) [.ref mo].toArray s 0 0 A) (F0 m 51 ls []) := by
      intro n
      induction n with
      | zero => intro B9 p9 H locs ls hp h0 ho hn; omega
      | succ n ih =>
        intro B9 p9 H locs ls hp h0 ho hn hP hD hS hl
        have ih51 := ih
        refine lv_iload_n hx hb dMo_text_51 rfl (lv_at hl 0 rfl) ?_
        refine lv_iconst (v := iI 1) hx hb dMo_text_52 rfl ?_
        refine iv_iadd hx hb dMo_text_53 ?_
        refine lv_aload_n hx hb dMo_text_54 rfl (lv_at hl 1 rfl) ?_
        refine va_get (D := (dC, dI)) (ci := 7) (v := .int (iI tl)) (C := "MacroReckonerModel") (T := TMo) (N := 23) hx hb hts inMo hown hK hP 0 rfl rfl 20 (by decide) (hts _ wt4_78) (fun _ h9 => h9) rfl dMo_text_55 ?_
        refine iv_icmp_ge (tgt := 83) hx hb dMo_text_58 (by decide) ⟨by omega, by omega⟩ ⟨by omega, by omega⟩ (fun hc58 => ?_) (fun hc58 => ?_)
        · have hMa : MT (up mT 46 1) (up mS 46 0) (up mC 46 0) (up mL 46 (tl - 2)) B9 46 (mkT (tl - 2) (fun j => D (1 + j))) := Or.inr ⟨rfl, up_s, up_s, up_s, rfl, rfl, up_s, ⟨by show 0 ≤ tl - 2; omega, by show tl - 2 ≤ 60; omega⟩, fun j x y => by have y : j < tl - 2 := y; have h := hD9 (1 + j) (by omega) (by omega); refine ⟨?_, h.2⟩; show B9 (60 * 46 + j) = D (1 + j); rw [show 60 * 46 + j = 2759 + (1 + j) by omega, h0 (1 + j) (by omega) (by omega)]; exact h.1⟩
          have hMH2 : MH (up mT 46 1) (up mS 46 0) (up mC 46 0) (up mL 46 (tl - 2)) B9 hg kk st := MH_o ⟨fun j x => ⟨up_n x, up_n x, up_n x, up_n x⟩, fun p x => ho p (by omega)⟩ hMH
          refine lv_aload_n hx hb dMo_text_83 rfl (lv_at hl 1 rfl) ?_
          refine lv_iconst (v := iI 0) hx hb dMo_text_84 rfl ?_
          refine cv_i (va_runV (C := "MacroReckonerModel") (As := [.int (iI 0)]) (rest := []) ⟨hx, hb, hml, hown, hts⟩ (cMo_put l dC dI dA mo ft lf hg kk tx pn tk fm tO tl mI ((up mT 46 1)) ((up mS 46 0)) ((up mC 46 0)) ((up mL 46 (tl - 2))) B9 mF mU mX mP mK mD mZ 0 (by omega) (by exact Or.inr up_s) H.size) (cwV 1 hts (gdV wt4_199 wt4_201 ws4_4 wt1_8 wt4_202) rfl rfl rfl ⟨rfl, by decide, by decide, by decide +kernel⟩ ⟨by decide, by decide⟩) (preV (q := ("MacroReckonerModel", TMo, 23)) hK hP hD hS hA XN_ok trivial [0, 1, 2, 3, 4, 5, 6, 7, 8, 9, 10, 11, 12, 13] rfl rfl 0 rfl rfl) rfl rfl hl.1 rfl (lv_room (Nat.le_of_ble_eq_true rfl)) dMo_text_85 ⟨Nat.zero_le _, Nat.zero_le _⟩) hP hD hS hA [0, 1, 2, 3, 4, 5, 6, 7, 8, 9, 10, 11, 12, 13] [] rfl (fun v_ => wMo dA mo ft lf v_.2.2.2.2.2 kk tx pn tk fm tO tl mI v_.1 v_.2.1 v_.2.2.1 v_.2.2.2.1 v_.2.2.2.2.1 mF mU mX mP mK mD mZ []) (fun _ => rfl) ([] : va_W) rfl (fun _ => rfl) [mo, mo + 1, mo + 2, mo + 3, mo + 4, mo + 5, mo + 6, mo + 7, mo + 8, mo + 9, mo + 10, mo + 11, mo + 12, mo + 13] rfl (fun _ => rfl) (fun _ => rfl) (fun r85 u_ H locs hq85 hP hD hS => ?_)
          obtain ⟨T1_85, S1_85, C1_85, L1_85, B1_85, hg1_85⟩ := u_
          have hP : va_P (dC, dI) vwCl (wMo dA mo ft lf hg1_85 kk tx pn tk fm tO tl mI T1_85 S1_85 C1_85 L1_85 B1_85 mF mU mX mP mK mD mZ []) H := hP
          have hD : va_D A (wMo dA mo ft lf hg1_85 kk tx pn tk fm tO tl mI T1_85 S1_85 C1_85 L1_85 B1_85 mF mU mX mP mK mD mZ []) := hD
          have hq85 : putR r85 hg 0 hg1_85 ((up mT 46 1)) ((up mS 46 0)) ((up mC 46 0)) ((up mL 46 (tl - 2))) B9 T1_85 S1_85 C1_85 L1_85 B1_85 := hq85
          exact rt_i hx hb hr hlocks hK hS dMo_text_88 (T1_85, S1_85, C1_85, L1_85, B1_85, hg1_85) hP hD (show r85 = (txtA st D tl).1 ∧ MH T1_85 S1_85 C1_85 L1_85 B1_85 hg1_85 kk (txtA st D tl).2 from by unfold txtA; rw [if_neg (by omega)]; exact put_0 hq85 hMH2 hMa)
        · have hk9 := hD9 p9 (by omega) (by omega)
          refine lv_aload_n hx hb dMo_text_61 rfl (lv_at hl 1 rfl) ?_
          refine va_get (D := (dC, dI)) (ci := 7) (v := .ref (mo + 6)) (C := "MacroReckonerModel") (T := TMo) (N := 23) hx hb hts inMo hown hK hP 0 rfl rfl 7 (by decide) (hts _ wt4_65) (fun _ h9 => h9) rfl dMo_text_62 ?_
          refine lv_sipush (v := iI 2759) hx hb dMo_text_65 (by decide) ?_
          refine lv_iload_n hx hb dMo_text_68 rfl (lv_at hl 0 rfl) ?_
          refine iv_iadd hx hb dMo_text_69 ?_
          refine lv_aload_n hx hb dMo_text_70 rfl (lv_at hl 1 rfl) ?_
          refine va_get (D := (dC, dI)) (ci := 7) (v := .ref (mo + 11)) (C := "MacroReckonerModel") (T := TMo) (N := 23) hx hb hts inMo hown hK hP 0 rfl rfl 19 (by decide) (hts _ wt4_77) (fun _ h9 => h9) rfl dMo_text_71 ?_
          refine lv_iload_n hx hb dMo_text_74 rfl (lv_at hl 0 rfl) ?_
          refine iv_iald hx hb hK hP 11 0 rfl rfl (by decide) dMo_text_75 (by omega) (by omega) ?_
          refine iv_iast (v := mK p9) hx hb hK hP hD hS 6 0 rfl rfl (by decide) dMo_text_76 (by omega) (by omega) (fun H locs hP hD hS => ?_)
          have hP : va_P (dC, dI) vwCl (wMo dA mo ft lf hg kk tx pn tk fm tO tl mI (up mT 46 1) (up mS 46 0) (up mC 46 0) (up mL 46 (tl - 2)) (up B9 (2759 + p9) (mK p9)) mF mU mX mP mK mD mZ []) H := hP
          have hD : va_D A (wMo dA mo ft lf hg kk tx pn tk fm tO tl mI (up mT 46 1) (up mS 46 0) (up mC 46 0) (up mL 46 (tl - 2)) (up B9 (2759 + p9) (mK p9)) mF mU mX mP mK mD mZ []) := hD
          refine lv_iinc (k := 0) (lv' := [(1, .int (iI (p9 + 1))), (0, .ref mo)]) (v := iI (p9 + 1)) hx hb dMo_text_77 hl rfl (iI_add _ _).symm (by decide) rfl (fun ls hl => ?_)
          refine lv_goto (tgt := 51) hx hb dMo_text_80 (by decide) ?_
          exact ih51 (up B9 (2759 + p9) (mK p9)) (p9 + 1) H locs ls (by omega) (by intro t x y; by_cases z : t = p9; rw [z, up_s]; rw [up_n (by omega)]; exact h0 t x (by omega)) (by intro p x; rw [up_n (by omega)]; exact ho p x) (by omega) hP hD hS (lv_sub hl [0, 1] rfl)
    exact L51 _ mB 1 H locs ls (by omega) (by intro t x y; omega) (by intro p _; rfl) (Nat.lt_succ_self _) hP hD hS (lv_sub hl [0, 1] rfl)
  · refine lv_bipush (v := iI (-7)) hx hb dMo_text_9 (by decide) ?_
    exact rt_i hx hb hr hlocks hK hS dMo_text_11 (mT, mS, mC, mL, mB, hg) hP hD (show (-7) = (txtA st D tl).1 ∧ MH mT mS mC mL mB hg kk (txtA st D tl).2 from by unfold txtA; rw [if_pos (by omega)]; exact ⟨rfl, hMH⟩)
