theorem dMo_load_0 : decode prog_9_method_4_code 0 = .ok (.iconst 0, 1) := by decide +kernel
theorem dMo_load_1 : decode prog_9_method_4_code 1 = .ok (.istore 4, 2) := by decide +kernel
theorem dMo_load_3 : decode prog_9_method_4_code 3 = .ok (.iload 4, 2) := by decide +kernel
theorem dMo_load_5 : decode prog_9_method_4_code 5 = .ok (.iload_n 3, 1) := by decide +kernel
theorem dMo_load_6 : decode prog_9_method_4_code 6 = .ok (.if_icmp .ge 23, 3) := by decide +kernel
theorem dMo_load_9 : decode prog_9_method_4_code 9 = .ok (.aload_n 0, 1) := by decide +kernel
theorem dMo_load_10 : decode prog_9_method_4_code 10 = .ok (.getfield 44, 3) := by decide +kernel
theorem dMo_load_13 : decode prog_9_method_4_code 13 = .ok (.sipush 340, 3) := by decide +kernel
theorem dMo_load_16 : decode prog_9_method_4_code 16 = .ok (.iload_n 1, 1) := by decide +kernel
theorem dMo_load_17 : decode prog_9_method_4_code 17 = .ok (.imul, 1) := by decide +kernel
theorem dMo_load_18 : decode prog_9_method_4_code 18 = .ok (.iload 4, 2) := by decide +kernel
theorem dMo_load_20 : decode prog_9_method_4_code 20 = .ok (.iadd, 1) := by decide +kernel
theorem dMo_load_21 : decode prog_9_method_4_code 21 = .ok (.iconst 0, 1) := by decide +kernel
theorem dMo_load_22 : decode prog_9_method_4_code 22 = .ok (.iastore, 1) := by decide +kernel
theorem dMo_load_23 : decode prog_9_method_4_code 23 = .ok (.iinc 4 1, 3) := by decide +kernel
theorem dMo_load_26 : decode prog_9_method_4_code 26 = .ok (.goto (-23), 3) := by decide +kernel
theorem dMo_load_29 : decode prog_9_method_4_code 29 = .ok (.iconst 0, 1) := by decide +kernel
theorem dMo_load_30 : decode prog_9_method_4_code 30 = .ok (.istore 4, 2) := by decide +kernel
theorem dMo_load_32 : decode prog_9_method_4_code 32 = .ok (.iload 4, 2) := by decide +kernel
theorem dMo_load_34 : decode prog_9_method_4_code 34 = .ok (.aload_n 0, 1) := by decide +kernel
theorem dMo_load_35 : decode prog_9_method_4_code 35 = .ok (.getfield 23, 3) := by decide +kernel
theorem dMo_load_38 : decode prog_9_method_4_code 38 = .ok (.iload_n 2, 1) := by decide +kernel
theorem dMo_load_39 : decode prog_9_method_4_code 39 = .ok (.iaload, 1) := by decide +kernel
theorem dMo_load_40 : decode prog_9_method_4_code 40 = .ok (.if_icmp .ge 36, 3) := by decide +kernel
theorem dMo_load_43 : decode prog_9_method_4_code 43 = .ok (.aload_n 0, 1) := by decide +kernel
theorem dMo_load_44 : decode prog_9_method_4_code 44 = .ok (.getfield 44, 3) := by decide +kernel
theorem dMo_load_47 : decode prog_9_method_4_code 47 = .ok (.sipush 340, 3) := by decide +kernel
theorem dMo_load_50 : decode prog_9_method_4_code 50 = .ok (.iload_n 1, 1) := by decide +kernel
theorem dMo_load_51 : decode prog_9_method_4_code 51 = .ok (.imul, 1) := by decide +kernel
theorem dMo_load_52 : decode prog_9_method_4_code 52 = .ok (.iload_n 3, 1) := by decide +kernel
theorem dMo_load_53 : decode prog_9_method_4_code 53 = .ok (.iadd, 1) := by decide +kernel
theorem dMo_load_54 : decode prog_9_method_4_code 54 = .ok (.iload 4, 2) := by decide +kernel
theorem dMo_load_56 : decode prog_9_method_4_code 56 = .ok (.iadd, 1) := by decide +kernel
theorem dMo_load_57 : decode prog_9_method_4_code 57 = .ok (.aload_n 0, 1) := by decide +kernel
theorem dMo_load_58 : decode prog_9_method_4_code 58 = .ok (.getfield 26, 3) := by decide +kernel
theorem dMo_load_61 : decode prog_9_method_4_code 61 = .ok (.bipush 60, 2) := by decide +kernel
theorem dMo_load_63 : decode prog_9_method_4_code 63 = .ok (.iload_n 2, 1) := by decide +kernel
theorem dMo_load_64 : decode prog_9_method_4_code 64 = .ok (.imul, 1) := by decide +kernel
theorem dMo_load_65 : decode prog_9_method_4_code 65 = .ok (.iload 4, 2) := by decide +kernel
theorem dMo_load_67 : decode prog_9_method_4_code 67 = .ok (.iadd, 1) := by decide +kernel
theorem dMo_load_68 : decode prog_9_method_4_code 68 = .ok (.iaload, 1) := by decide +kernel
theorem dMo_load_69 : decode prog_9_method_4_code 69 = .ok (.iastore, 1) := by decide +kernel
theorem dMo_load_70 : decode prog_9_method_4_code 70 = .ok (.iinc 4 1, 3) := by decide +kernel
theorem dMo_load_73 : decode prog_9_method_4_code 73 = .ok (.goto (-41), 3) := by decide +kernel
theorem dMo_load_76 : decode prog_9_method_4_code 76 = .ok (.aload_n 0, 1) := by decide +kernel
theorem dMo_load_77 : decode prog_9_method_4_code 77 = .ok (.getfield 47, 3) := by decide +kernel
theorem dMo_load_80 : decode prog_9_method_4_code 80 = .ok (.iload_n 1, 1) := by decide +kernel
theorem dMo_load_81 : decode prog_9_method_4_code 81 = .ok (.iload_n 3, 1) := by decide +kernel
theorem dMo_load_82 : decode prog_9_method_4_code 82 = .ok (.aload_n 0, 1) := by decide +kernel
theorem dMo_load_83 : decode prog_9_method_4_code 83 = .ok (.getfield 23, 3) := by decide +kernel
theorem dMo_load_86 : decode prog_9_method_4_code 86 = .ok (.iload_n 2, 1) := by decide +kernel
theorem dMo_load_87 : decode prog_9_method_4_code 87 = .ok (.iaload, 1) := by decide +kernel
theorem dMo_load_88 : decode prog_9_method_4_code 88 = .ok (.iadd, 1) := by decide +kernel
theorem dMo_load_89 : decode prog_9_method_4_code 89 = .ok (.iastore, 1) := by decide +kernel
theorem dMo_load_90 : decode prog_9_method_4_code 90 = .ok (.aload_n 0, 1) := by decide +kernel
theorem dMo_load_91 : decode prog_9_method_4_code 91 = .ok (.iload_n 1, 1) := by decide +kernel
theorem dMo_load_92 : decode prog_9_method_4_code 92 = .ok (.invokevirtual 54, 3) := by decide +kernel
theorem dMo_load_95 : decode prog_9_method_4_code 95 = .ok (.return_, 1) := by decide +kernel
abbrev qMo_load (dC : Nat → ClassId) (dI : Nat → Nat → Nat) (dA : Nat → ClassId) (mo : Nat) (ft : Int) (lf : Int) (hg : Int) (kk : Int) (tx : Int) (pn : Int) (tk : Int) (fm : Int) (tO : Int) (tl : Int) (mI : Int → Int) (mT : Int → Int) (mS : Int → Int) (mC : Int → Int) (mL : Int → Int) (mB : Int → Int) (mF : Int → Int) (mU : Int → Int) (mX : Int → Int) (mP : Int → Int) (mK : Int → Int) (mD : Int → Int) (mZ : Int → Int) (i : Int) (th : Int) (zr : Int) (M : Int) (A : Nat → Prop) : Array Value → State → Outcome → State → Prop := QV (dC, dI) vwCl (tyA dA) (fun (v_ : (Int → Int) × (Int → Int)) => MR v_.1 v_.2 i (M * PW 10 zr) ∧ others mD mZ v_.1 v_.2 i) (fun (v_ : (Int → Int) × (Int → Int)) => wMo dA mo ft lf hg kk tx pn tk fm tO tl mI mT mS mC mL mB mF mU mX mP mK v_.1 v_.2 []) A
abbrev rmMo_load : Room := { frames := 1, cells := 0, slots := 0, locals := 21 }
set_option maxRecDepth 100000 in
set_option maxHeartbeats 1000000 in
theorem cMo_load (l : Launch) (dC : Nat → ClassId) (dI : Nat → Nat → Nat) (dA : Nat → ClassId) (mo : Nat) (ft : Int) (lf : Int) (hg : Int) (kk : Int) (tx : Int) (pn : Int) (tk : Int) (fm : Int) (tO : Int) (tl : Int) (mI : Int → Int) (mT : Int → Int) (mS : Int → Int) (mC : Int → Int) (mL : Int → Int) (mB : Int → Int) (mF : Int → Int) (mU : Int → Int) (mX : Int → Int) (mP : Int → Int) (mK : Int → Int) (mD : Int → Int) (mZ : Int → Int) (i : Int) (th : Int) (zr : Int) (M : Int) (hi : 0 ≤ i ∧ i ≤ 4 ∧ 0 ≤ th ∧ th ≤ 46) (hzr : 0 ≤ zr ∧ zr ≤ 200) (hT : TD mB mL th M) (sz : Nat) : Met l yMo_load wsMo_load rmMo_load (PC (dC, dI) vwCl (tyA dA) XN [.ref mo, .int (iI i), .int (iI th), .int (iI zr)] (wMo dA mo ft lf hg kk tx pn tk fm tO tl mI mT mS mC mL mB mF mU mX mP mK mD mZ []) sz) (qMo_load dC dI dA mo ft lf hg kk tx pn tk fm tO tl mI mT mS mC mL mB mF mU mX mP mK mD mZ i th zr M (va_A (wMo dA mo ft lf hg kk tx pn tk fm tO tl mI mT mS mC mL mB mF mU mX mP mK mD mZ []) sz)) 0 0 (va_A (wMo dA mo ft lf hg kk tx pn tk fm tO tl mI mT mS mC mL mB mF mU mX mP mK mD mZ []) sz) := by
  refine met_of (cc := prog_9_method_4_code) (maxL := 5) (ret := none) (Qc := qMo_load dC dI dA mo ft lf hg kk tx pn tk fm tO tl mI mT mS mC mL mB mF mU mX mP mK mD mZ i th zr M) XN_ok (by decide) rfl (Nat.le_of_ble_eq_true rfl) ?_
  intro p e s m below meth c ls A hx hb hr hml hown hts hlocks hnm hK hP hD hA hX hS hl
  have hl : lv_has ls 5 [(0, .ref mo), (1, .int (iI i)), (2, .int (iI th)), (3, .int (iI zr))] := hl
  have hown : s.vm.findClass "MacroReckonerModel" = some m.cls := hown
  obtain ⟨H, hH⟩ : ∃ H : Heap, H = s.heap := ⟨_, rfl⟩
  obtain ⟨locs, hlo⟩ : ∃ L : List Loc, L = [] := ⟨_, rfl⟩
  have hP : va_P (dC, dI) vwCl (wMo dA mo ft lf hg kk tx pn tk fm tO tl mI mT mS mC mL mB mF mU mX mP mK mD mZ []) H := hH ▸ hP
  have hS : va_S A s.heap H locs := by rw [hH, hlo]; exact hS
  suffices hgo : W p l e rmMo_load s m [.ref mo, .int (iI i), .int (iI th), .int (iI zr)].toArray below meth c H locs 0 0 (MQ below (qMo_load dC dI dA mo ft lf hg kk tx pn tk fm tO tl mI mT mS mC mL mB mF mU mX mP mK mD mZ i th zr M A) [.ref mo, .int (iI i), .int (iI th), .int (iI zr)].toArray s 0 0 A) (F0 m 0 ls []) by rw [hH, hlo] at hgo; exact hgo
  clear hH hlo
  have hl6 := hT.1
  refine lv_iconst (v := iI 0) hx hb dMo_load_0 rfl ?_
  refine lv_istore (lv' := [(4, .int (iI 0)), (0, .ref mo), (1, .int (iI i)), (2, .int (iI th)), (3, .int (iI zr))]) hx hb dMo_load_1 hl (by decide) rfl (fun ls hl => ?_)
  have L3 : ∀ (n : Nat) (D9 : Int → Int) (j : Int) (H : Heap) (locs : List Loc) (ls : Array Slot), (0 ≤ j ∧ j ≤ zr) → (∀ t, 0 ≤ t → t < j → D9 (340 * i + t) = 0) → (∀ p, p < 340 * i ∨ 340 * i + 340 ≤ p → D9 p = mD p) → (zr - j).toNat < n → va_P (dC, dI) vwCl (wMo dA mo ft lf hg kk tx pn tk fm tO tl mI mT mS mC mL mB mF mU mX mP mK D9 mZ []) H → va_D A (wMo dA mo ft lf hg kk tx pn tk fm tO tl mI mT mS mC mL mB mF mU mX mP mK D9 mZ []) → va_S A s.heap H locs → lv_has ls 5 [(4, .int (iI j)), (0, .ref mo), (1, .int (iI i)), (2, .int (iI th)), (3, .int (iI zr))] → W p l e rmMo_load s m [.ref mo, .int (iI i), .int (iI th), .int (iI zr)].toArray below meth c H locs 0 0 (MQ below (qMo_load dC dI dA mo ft lf hg kk tx pn tk fm tO tl mI mT mS mC mL mB mF mU mX mP mK mD mZ i th zr M A) [.ref mo, .int (iI i), .int (iI th), .int (iI zr)].toArray s 0 0 A) (F0 m 3 ls []) := by
    intro n
    induction n with
    | zero => intro D9 j H locs ls hj h0 ho hn; omega
    | succ n ih =>
      intro D9 j H locs ls hj h0 ho hn hP hD hS hl
      have ih3 := ih
      refine lv_iload hx hb dMo_load_3 (lv_at hl 0 rfl) ?_
      refine lv_iload_n hx hb dMo_load_5 rfl (lv_at hl 4 rfl) ?_
      refine iv_icmp_ge (tgt := 29) hx hb dMo_load_6 (by decide) ⟨by omega, by omega⟩ ⟨by omega, by omega⟩ (fun hc6 => ?_) (fun hc6 => ?_)
      · refine lv_iconst (v := iI 0) hx hb dMo_load_29 rfl ?_
        refine lv_istore (lv' := [(4, .int (iI 0)), (0, .ref mo), (1, .int (iI i)), (2, .int (iI th)), (3, .int (iI zr))]) hx hb dMo_load_30 hl (by decide) rfl (fun ls hl => ?_)
        have L32 : ∀ (n : Nat) (D8 : Int → Int) (j : Int) (H : Heap) (locs : List Loc) (ls : Array Slot), (0 ≤ j ∧ j ≤ mL th) → (∀ t, 0 ≤ t → t < zr → D8 (340 * i + t) = 0) → (∀ t, 0 ≤ t → t < j → D8 (340 * i + zr + t) = mB (60 * th + t)) → (∀ p, p < 340 * i ∨ 340 * i + 340 ≤ p → D8 p = mD p) → (mL th - j).toNat < n → va_P (dC, dI) vwCl (wMo dA mo ft lf hg kk tx pn tk fm tO tl mI mT mS mC mL mB mF mU mX mP mK D8 mZ []) H → va_D A (wMo dA mo ft lf hg kk tx pn tk fm tO tl mI mT mS mC mL mB mF mU mX mP mK D8 mZ []) → va_S A s.heap H locs → lv_has ls 5 [(4, .int (iI j)), (0, .ref mo), (1, .int (iI i)), (2, .int (iI th)), (3, .int (iI zr))] → W p l e rmMo_load s m [.ref mo, .int (iI i), .int (iI th), .int (iI zr)].toArray below meth c H locs 0 0 (MQ below (qMo_load dC dI dA mo ft lf hg kk tx pn tk fm tO tl mI mT mS mC mL mB mF mU mX mP mK mD mZ i th zr M A) [.ref mo, .int (iI i), .int (iI th), .int (iI zr)].toArray s 0 0 A) (F0 m 32 ls []) := by
          intro n
          induction n with
          | zero => intro D8 j H locs ls hj8 h08 h18 ho8 hn; omega
          | succ n ih =>
            intro D8 j H locs ls hj8 h08 h18 ho8 hn hP hD hS hl
            have ih32 := ih
            refine lv_iload hx hb dMo_load_32 (lv_at hl 0 rfl) ?_
            refine lv_aload_n hx hb dMo_load_34 rfl (lv_at hl 1 rfl) ?_
            refine va_get (D := (dC, dI)) (ci := 7) (v := .ref (mo + 5)) (C := "MacroReckonerModel") (T := TMo) (N := 23) hx hb hts inMo hown hK hP 0 rfl rfl 6 (by decide) (hts _ wt4_64) (fun _ h9 => h9) rfl dMo_load_35 ?_
            refine lv_iload_n hx hb dMo_load_38 rfl (lv_at hl 3 rfl) ?_
            refine iv_iald hx hb hK hP 5 0 rfl rfl (by decide) dMo_load_39 (by omega) (by omega) ?_
            refine iv_icmp_ge (tgt := 76) hx hb dMo_load_40 (by decide) ⟨by omega, by omega⟩ ⟨by omega, by omega⟩ (fun hc40 => ?_) (fun hc40 => ?_)
            · refine lv_aload_n hx hb dMo_load_76 rfl (lv_at hl 1 rfl) ?_
              refine va_get (D := (dC, dI)) (ci := 7) (v := .ref (mo + 13)) (C := "MacroReckonerModel") (T := TMo) (N := 23) hx hb hts inMo hown hK hP 0 rfl rfl 22 (by decide) (hts _ wt4_80) (fun _ h9 => h9) rfl dMo_load_77 ?_
              refine lv_iload_n hx hb dMo_load_80 rfl (lv_at hl 2 rfl) ?_
              refine lv_iload_n hx hb dMo_load_81 rfl (lv_at hl 4 rfl) ?_
              refine lv_aload_n hx hb dMo_load_82 rfl (lv_at hl 1 rfl) ?_
              refine va_get (D := (dC, dI)) (ci := 7) (v := .ref (mo + 5)) (C := "MacroReckonerModel") (T := TMo) (N := 23) hx hb hts inMo hown hK hP 0 rfl rfl 6 (by decide) (hts _ wt4_64) (fun _ h9 => h9) rfl dMo_load_83 ?_
              refine lv_iload_n hx hb dMo_load_86 rfl (lv_at hl 3 rfl) ?_
              refine iv_iald hx hb hK hP 5 0 rfl rfl (by decide) dMo_load_87 (by omega) (by omega) ?_
              refine iv_iadd hx hb dMo_load_88 ?_
              refine iv_iast (v := zr + (mL th)) hx hb hK hP hD hS 13 0 rfl rfl (by decide) dMo_load_89 (by omega) (by omega) (fun H locs hP hD hS => ?_)
              have hP : va_P (dC, dI) vwCl (wMo dA mo ft lf hg kk tx pn tk fm tO tl mI mT mS mC mL mB mF mU mX mP mK D8 (up mZ i (zr + (mL th))) []) H := hP
              have hD : va_D A (wMo dA mo ft lf hg kk tx pn tk fm tO tl mI mT mS mC mL mB mF mU mX mP mK D8 (up mZ i (zr + (mL th))) []) := hD
              refine lv_aload_n hx hb dMo_load_90 rfl (lv_at hl 1 rfl) ?_
              refine lv_iload_n hx hb dMo_load_91 rfl (lv_at hl 2 rfl) ?_
              refine cv_v (va_runV (C := "MacroReckonerModel") (As := [.int (iI i)]) (rest := []) ⟨hx, hb, hml, hown, hts⟩ (cMo_trim l dC dI dA mo ft lf hg kk tx pn tk fm tO tl mI mT mS mC mL mB mF mU mX mP mK D8 ((up mZ i (zr + (mL th)))) i (M * PW 10 zr) (by omega) (by exact load_e hT hzr h08 (fun t x y => h18 t x (by omega))) H.size) (cwV 1 hts (gdV wt4_191 wt4_193 ws4_2 wt1_8 wt4_194) rfl rfl rfl ⟨rfl, by decide, by decide, by decide +kernel⟩ ⟨by decide, by decide⟩) (preV (q := ("MacroReckonerModel", TMo, 23)) hK hP hD hS hA XN_ok trivial [0, 1, 2, 3, 4, 5, 6, 7, 8, 9, 10, 11, 12, 13] rfl rfl 0 rfl rfl) rfl rfl hl.1 rfl (lv_room (Nat.le_of_ble_eq_true rfl)) dMo_load_92 ⟨Nat.zero_le _, Nat.zero_le _⟩) hP hD hS hA [0, 1, 2, 3, 4, 5, 6, 7, 8, 9, 10, 11, 12, 13] [] rfl (fun v_ => wMo dA mo ft lf hg kk tx pn tk fm tO tl mI mT mS mC mL mB mF mU mX mP mK D8 v_ []) (fun _ => rfl) ([] : va_W) rfl (fun _ => rfl) [mo, mo + 1, mo + 2, mo + 3, mo + 4, mo + 5, mo + 6, mo + 7, mo + 8, mo + 9, mo + 10, mo + 11, mo + 12, mo + 13] rfl (fun _ => rfl) (fun _ => rfl) (fun u_ H locs hq92 hP hD hS => ?_)
              obtain ⟨Z7, rfl⟩ : ∃ z, z = u_ := ⟨_, rfl⟩
              have hP : va_P (dC, dI) vwCl (wMo dA mo ft lf hg kk tx pn tk fm tO tl mI mT mS mC mL mB mF mU mX mP mK D8 Z7 []) H := hP
              have hD : va_D A (wMo dA mo ft lf hg kk tx pn tk fm tO tl mI mT mS mC mL mB mF mU mX mP mK D8 Z7 []) := hD
              have hq92 : MR D8 Z7 i (M * PW 10 zr) ∧ ∀ j, j ≠ i → Z7 j = ((up mZ i (zr + (mL th)))) j := hq92
              exact rt_v hx hb hr hlocks hK hS dMo_load_95 (D8, Z7) hP hD (show MR D8 Z7 i (M * PW 10 zr) ∧ others mD mZ D8 Z7 i from by exact ⟨hq92.1, ho8, fun t x => by rw [hq92.2 t x, up_n x]⟩)
            · refine lv_aload_n hx hb dMo_load_43 rfl (lv_at hl 1 rfl) ?_
              refine va_get (D := (dC, dI)) (ci := 7) (v := .ref (mo + 12)) (C := "MacroReckonerModel") (T := TMo) (N := 23) hx hb hts inMo hown hK hP 0 rfl rfl 21 (by decide) (hts _ wt4_79) (fun _ h9 => h9) rfl dMo_load_44 ?_
              refine lv_sipush (v := iI 340) hx hb dMo_load_47 (by decide) ?_
              refine lv_iload_n hx hb dMo_load_50 rfl (lv_at hl 2 rfl) ?_
              refine iv_imul hx hb dMo_load_51 ?_
              refine lv_iload_n hx hb dMo_load_52 rfl (lv_at hl 4 rfl) ?_
              refine iv_iadd hx hb dMo_load_53 ?_
              refine lv_iload hx hb dMo_load_54 (lv_at hl 0 rfl) ?_
              refine iv_iadd hx hb dMo_load_56 ?_
              refine lv_aload_n hx hb dMo_load_57 rfl (lv_at hl 1 rfl) ?_
              refine va_get (D := (dC, dI)) (ci := 7) (v := .ref (mo + 6)) (C := "MacroReckonerModel") (T := TMo) (N := 23) hx hb hts inMo hown hK hP 0 rfl rfl 7 (by decide) (hts _ wt4_65) (fun _ h9 => h9) rfl dMo_load_58 ?_
              refine lv_bipush (v := iI 60) hx hb dMo_load_61 (by decide) ?_
              refine lv_iload_n hx hb dMo_load_63 rfl (lv_at hl 3 rfl) ?_
              refine iv_imul hx hb dMo_load_64 ?_
              refine lv_iload hx hb dMo_load_65 (lv_at hl 0 rfl) ?_
              refine iv_iadd hx hb dMo_load_67 ?_
              refine iv_iald hx hb hK hP 6 0 rfl rfl (by decide) dMo_load_68 (by omega) (by omega) ?_
              refine iv_iast (v := mB ((60 * th) + j)) hx hb hK hP hD hS 12 0 rfl rfl (by decide) dMo_load_69 (by omega) (by omega) (fun H locs hP hD hS => ?_)
              have hP : va_P (dC, dI) vwCl (wMo dA mo ft lf hg kk tx pn tk fm tO tl mI mT mS mC mL mB mF mU mX mP mK (up D8 (((340 * i) + zr) + j) (mB ((60 * th) + j))) mZ []) H := hP
              have hD : va_D A (wMo dA mo ft lf hg kk tx pn tk fm tO tl mI mT mS mC mL mB mF mU mX mP mK (up D8 (((340 * i) + zr) + j) (mB ((60 * th) + j))) mZ []) := hD
              refine lv_iinc (k := 0) (lv' := [(4, .int (iI (j + 1))), (0, .ref mo), (1, .int (iI i)), (2, .int (iI th)), (3, .int (iI zr))]) (v := iI (j + 1)) hx hb dMo_load_70 hl rfl (iI_add _ _).symm (by decide) rfl (fun ls hl => ?_)
              refine lv_goto (tgt := 32) hx hb dMo_load_73 (by decide) ?_
              exact ih32 (up D8 (((340 * i) + zr) + j) (mB ((60 * th) + j))) (j + 1) H locs ls (by omega) (by intro t x y; rw [up_n (by omega)]; exact h08 t x y) (by intro t x y; by_cases z : t = j; rw [z, up_s]; rw [up_n (by omega)]; exact h18 t x (by omega)) (by intro p x; rw [up_n (by omega)]; exact ho8 p x) (by omega) hP hD hS (lv_sub hl [0, 1, 2, 3, 4] rfl)
        exact L32 _ D9 0 H locs ls (by omega) (by intro t x y; exact h0 t x (by omega)) (by intro t x y; omega) (by exact ho) (Nat.lt_succ_self _) hP hD hS (lv_sub hl [0, 1, 2, 3, 4] rfl)
      · refine lv_aload_n hx hb dMo_load_9 rfl (lv_at hl 1 rfl) ?_
        refine va_get (D := (dC, dI)) (ci := 7) (v := .ref (mo + 12)) (C := "MacroReckonerModel") (T := TMo) (N := 23) hx hb hts inMo hown hK hP 0 rfl rfl 21 (by decide) (hts _ wt4_79) (fun _ h9 => h9) rfl dMo_load_10 ?_
        refine lv_sipush (v := iI 340) hx hb dMo_load_13 (by decide) ?_
        refine lv_iload_n hx hb dMo_load_16 rfl (lv_at hl 2 rfl) ?_
        refine iv_imul hx hb dMo_load_17 ?_
        refine lv_iload hx hb dMo_load_18 (lv_at hl 0 rfl) ?_
        refine iv_iadd hx hb dMo_load_20 ?_
        refine lv_iconst (v := iI 0) hx hb dMo_load_21 rfl ?_
        refine iv_iast (v := 0) hx hb hK hP hD hS 12 0 rfl rfl (by decide) dMo_load_22 (by omega) (by omega) (fun H locs hP hD hS => ?_)
        have hP : va_P (dC, dI) vwCl (wMo dA mo ft lf hg kk tx pn tk fm tO tl mI mT mS mC mL mB mF mU mX mP mK (up D9 ((340 * i) + j) 0) mZ []) H := hP
        have hD : va_D A (wMo dA mo ft lf hg kk tx pn tk fm tO tl mI mT mS mC mL mB mF mU mX mP mK (up D9 ((340 * i) + j) 0) mZ []) := hD
        refine lv_iinc (k := 0) (lv' := [(4, .int (iI (j + 1))), (0, .ref mo), (1, .int (iI i)), (2, .int (iI th)), (3, .int (iI zr))]) (v := iI (j + 1)) hx hb dMo_load_23 hl rfl (iI_add _ _).symm (by decide) rfl (fun ls hl => ?_)
        refine lv_goto (tgt := 3) hx hb dMo_load_26 (by decide) ?_
        exact ih3 (up D9 ((340 * i) + j) 0) (j + 1) H locs ls (by omega) (by intro t x y; by_cases z : t = j; rw [z, up_s]; rw [up_n (by omega)]; exact h0 t x (by omega)) (by intro p x; rw [up_n (by omega)]; exact ho p x) (by omega) hP hD hS (lv_sub hl [0, 1, 2, 3, 4] rfl)
  exact L3 _ mD 0 H locs ls (by omega) (by intro t x y; omega) (by intro p _; rfl) (Nat.lt_succ_self _) hP hD hS (lv_sub hl [0, 1, 2, 3, 4] rfl)

theorem dMo_cut_0 : decode prog_9_method_8_code 0 = .ok (.iload_n 2, 1) := by decide +kernel
theorem dMo_cut_1 : decode prog_9_method_8_code 1 = .ok (.istore_n 3, 1) := by decide +kernel
theorem dMo_cut_2 : decode prog_9_method_8_code 2 = .ok (.iload_n 3, 1) := by decide +kernel
theorem dMo_cut_3 : decode prog_9_method_8_code 3 = .ok (.aload_n 0, 1) := by decide +kernel
theorem dMo_cut_4 : decode prog_9_method_8_code 4 = .ok (.getfield 47, 3) := by decide +kernel
theorem dMo_cut_7 : decode prog_9_method_8_code 7 = .ok (.iload_n 1, 1) := by decide +kernel
theorem dMo_cut_8 : decode prog_9_method_8_code 8 = .ok (.iaload, 1) := by decide +kernel
theorem dMo_cut_9 : decode prog_9_method_8_code 9 = .ok (.if_icmp .ge 35, 3) := by decide +kernel
theorem dMo_cut_12 : decode prog_9_method_8_code 12 = .ok (.aload_n 0, 1) := by decide +kernel
theorem dMo_cut_13 : decode prog_9_method_8_code 13 = .ok (.getfield 44, 3) := by decide +kernel
theorem dMo_cut_16 : decode prog_9_method_8_code 16 = .ok (.sipush 340, 3) := by decide +kernel
theorem dMo_cut_19 : decode prog_9_method_8_code 19 = .ok (.iload_n 1, 1) := by decide +kernel
theorem dMo_cut_20 : decode prog_9_method_8_code 20 = .ok (.imul, 1) := by decide +kernel
theorem dMo_cut_21 : decode prog_9_method_8_code 21 = .ok (.iload_n 3, 1) := by decide +kernel
theorem dMo_cut_22 : decode prog_9_method_8_code 22 = .ok (.iadd, 1) := by decide +kernel
theorem dMo_cut_23 : decode prog_9_method_8_code 23 = .ok (.iload_n 2, 1) := by decide +kernel
theorem dMo_cut_24 : decode prog_9_method_8_code 24 = .ok (.isub, 1) := by decide +kernel
theorem dMo_cut_25 : decode prog_9_method_8_code 25 = .ok (.aload_n 0, 1) := by decide +kernel
theorem dMo_cut_26 : decode prog_9_method_8_code 26 = .ok (.getfield 44, 3) := by decide +kernel
theorem dMo_cut_29 : decode prog_9_method_8_code 29 = .ok (.sipush 340, 3) := by decide +kernel
theorem dMo_cut_32 : decode prog_9_method_8_code 32 = .ok (.iload_n 1, 1) := by decide +kernel
theorem dMo_cut_33 : decode prog_9_method_8_code 33 = .ok (.imul, 1) := by decide +kernel
theorem dMo_cut_34 : decode prog_9_method_8_code 34 = .ok (.iload_n 3, 1) := by decide +kernel
theorem dMo_cut_35 : decode prog_9_method_8_code 35 = .ok (.iadd, 1) := by decide +kernel
theorem dMo_cut_36 : decode prog_9_method_8_code 36 = .ok (.iaload, 1) := by decide +kernel
theorem dMo_cut_37 : decode prog_9_method_8_code 37 = .ok (.iastore, 1) := by decide +kernel
theorem dMo_cut_38 : decode prog_9_method_8_code 38 = .ok (.iinc 3 1, 3) := by decide +kernel
theorem dMo_cut_41 : decode prog_9_method_8_code 41 = .ok (.goto (-39), 3) := by decide +kernel
theorem dMo_cut_44 : decode prog_9_method_8_code 44 = .ok (.aload_n 0, 1) := by decide +kernel
theorem dMo_cut_45 : decode prog_9_method_8_code 45 = .ok (.getfield 47, 3) := by decide +kernel
theorem dMo_cut_48 : decode prog_9_method_8_code 48 = .ok (.iload_n 1, 1) := by decide +kernel
theorem dMo_cut_49 : decode prog_9_method_8_code 49 = .ok (.aload_n 0, 1) := by decide +kernel
theorem dMo_cut_50 : decode prog_9_method_8_code 50 = .ok (.getfield 47, 3) := by decide +kernel
theorem dMo_cut_53 : decode prog_9_method_8_code 53 = .ok (.iload_n 1, 1) := by decide +kernel
theorem dMo_cut_54 : decode prog_9_method_8_code 54 = .ok (.iaload, 1) := by decide +kernel
theorem dMo_cut_55 : decode prog_9_method_8_code 55 = .ok (.iload_n 2, 1) := by decide +kernel
theorem dMo_cut_56 : decode prog_9_method_8_code 56 = .ok (.if_icmp .le 14, 3) := by decide +kernel
theorem dMo_cut_59 : decode prog_9_method_8_code 59 = .ok (.aload_n 0, 1) := by decide +kernel
theorem dMo_cut_60 : decode prog_9_method_8_code 60 = .ok (.getfield 47, 3) := by decide +kernel
theorem dMo_cut_63 : decode prog_9_method_8_code 63 = .ok (.iload_n 1, 1) := by decide +kernel
theorem dMo_cut_64 : decode prog_9_method_8_code 64 = .ok (.iaload, 1) := by decide +kernel
theorem dMo_cut_65 : decode prog_9_method_8_code 65 = .ok (.iload_n 2, 1) := by decide +kernel
theorem dMo_cut_66 : decode prog_9_method_8_code 66 = .ok (.isub, 1) := by decide +kernel
theorem dMo_cut_67 : decode prog_9_method_8_code 67 = .ok (.goto 4, 3) := by decide +kernel
theorem dMo_cut_70 : decode prog_9_method_8_code 70 = .ok (.iconst 0, 1) := by decide +kernel
theorem dMo_cut_71 : decode prog_9_method_8_code 71 = .ok (.iastore, 1) := by decide +kernel
theorem dMo_cut_72 : decode prog_9_method_8_code 72 = .ok (.return_, 1) := by decide +kernel
abbrev qMo_cut (dC : Nat → ClassId) (dI : Nat → Nat → Nat) (dA : Nat → ClassId) (mo : Nat) (ft : Int) (lf : Int) (hg : Int) (kk : Int) (tx : Int) (pn : Int) (tk : Int) (fm : Int) (tO : Int) (tl : Int) (mI : Int → Int) (mT : Int → Int) (mS : Int → Int) (mC : Int → Int) (mL : Int → Int) (mB : Int → Int) (mF : Int → Int) (mU : Int → Int) (mX : Int → Int) (mP : Int → Int) (mK : Int → Int) (mD : Int → Int) (mZ : Int → Int) (i : Int) (n0 : Int) (N : Int) (A : Nat → Prop) : Array Value → State → Outcome → State → Prop := QV (dC, dI) vwCl (tyA dA) (fun (v_ : (Int → Int) × (Int → Int)) => MR v_.1 v_.2 i (N / PW 10 n0) ∧ others mD mZ v_.1 v_.2 i) (fun (v_ : (Int → Int) × (Int → Int)) => wMo dA mo ft lf hg kk tx pn tk fm tO tl mI mT mS mC mL mB mF mU mX mP mK v_.1 v_.2 []) A
abbrev rmMo_cut : Room := { frames := 0, cells := 0, slots := 0, locals := 0 }
set_option maxRecDepth 100000 in
set_option maxHeartbeats 1000000 in
theorem cMo_cut (l : Launch) (dC : Nat → ClassId) (dI : Nat → Nat → Nat) (dA : Nat → ClassId) (mo : Nat) (ft : Int) (lf : Int) (hg : Int) (kk : Int) (tx : Int) (pn : Int) (tk : Int) (fm : Int) (tO : Int) (tl : Int) (mI : Int → Int) (mT : Int → Int) (mS : Int → Int) (mC : Int → Int) (mL : Int → Int) (mB : Int → Int) (mF : Int → Int) (mU : Int → Int) (mX : Int → Int) (mP : Int → Int) (mK : Int → Int) (mD : Int → Int) (mZ : Int → Int) (i : Int) (n0 : Int) (N : Int) (hi : 0 ≤ i ∧ i ≤ 4) (hn0 : 0 ≤ n0 ∧ n0 ≤ 1000) (hM : MR mD mZ i N) (sz : Nat) : Met l yMo_cut wsMo_cut rmMo_cut (PC (dC, dI) vwCl (tyA dA) XN [.ref mo, .int (iI i), .int (iI n0)] (wMo dA mo ft lf hg kk tx pn tk fm tO tl mI mT mS mC mL mB mF mU mX mP mK mD mZ []) sz) (qMo_cut dC dI dA mo ft lf hg kk tx pn tk fm tO tl mI mT mS mC mL mB mF mU mX mP mK mD mZ i n0 N (va_A (wMo dA mo ft lf hg kk tx pn tk fm tO tl mI mT mS mC mL mB mF mU mX mP mK mD mZ []) sz)) 0 0 (va_A (wMo dA mo ft lf hg kk tx pn tk fm tO tl mI mT mS mC mL mB mF mU mX mP mK mD mZ []) sz) := by
  refine met_of (cc := prog_9_method_8_code) (maxL := 4) (ret := none) (Qc := qMo_cut dC dI dA mo ft lf hg kk tx pn tk fm tO tl mI mT mS mC mL mB mF mU mX mP mK mD mZ i n0 N) XN_ok (by decide) rfl (Nat.le_of_ble_eq_true rfl) ?_
  intro p e s m below meth c ls A hx hb hr hml hown hts hlocks hnm hK hP hD hA hX hS hl
  have hl : lv_has ls 4 [(0, .ref mo), (1, .int (iI i)), (2, .int (iI n0))] := hl
  have hown : s.vm.findClass "MacroReckonerModel" = some m.cls := hown
  obtain ⟨H, hH⟩ : ∃ H : Heap, H = s.heap := ⟨_, rfl⟩
  obtain ⟨locs, hlo⟩ : ∃ L : List Loc, L = [] := ⟨_, rfl⟩
  have hP : va_P (dC, dI) vwCl (wMo dA mo ft lf hg kk tx pn tk fm tO tl mI mT mS mC mL mB mF mU mX mP mK mD mZ []) H := hH ▸ hP
  have hS : va_S A s.heap H locs := by rw [hH, hlo]; exact hS
  suffices hgo : W p l e rmMo_cut s m [.ref mo, .int (iI i), .int (iI n0)].toArray below meth c H locs 0 0 (MQ below (qMo_cut dC dI dA mo ft lf hg kk tx pn tk fm tO tl mI mT mS mC mL mB mF mU mX mP mK mD mZ i n0 N A) [.ref mo, .int (iI i), .int (iI n0)].toArray s 0 0 A) (F0 m 0 ls []) by rw [hH, hlo] at hgo; exact hgo
  clear hH hlo
  have hz := hM.1.1
  refine lv_iload_n hx hb dMo_cut_0 rfl (lv_at hl 2 rfl) ?_
  refine lv_istore_n (lv' := [(3, .int (iI n0)), (0, .ref mo), (1, .int (iI i)), (2, .int (iI n0))]) hx hb dMo_cut_1 rfl hl (by decide) rfl (fun ls hl => ?_)
  have L2 : ∀ (n : Nat) (D9 : Int → Int) (j : Int) (H : Heap) (locs : List Loc) (ls : Array Slot), (n0 ≤ j ∧ (j ≤ mZ i ∨ j = n0)) → (∀ t, 0 ≤ t → t < j - n0 → D9 (340 * i + t) = mD (340 * i + t + n0)) → (∀ t, j ≤ t → t < mZ i → D9 (340 * i + t) = mD (340 * i + t)) → (∀ p, p < 340 * i ∨ 340 * i + 340 ≤ p → D9 p = mD p) → (mZ i - j).toNat < n → va_P (dC, dI) vwCl (wMo dA mo ft lf hg kk tx pn tk fm tO tl mI mT mS mC mL mB mF mU mX mP mK D9 mZ []) H → va_D A (wMo dA mo ft lf hg kk tx pn tk fm tO tl mI mT mS mC mL mB mF mU mX mP mK D9 mZ []) → va_S A s.heap H locs → lv_has ls 4 [(3, .int (iI j)), (0, .ref mo), (1, .int (iI i)), (2, .int (iI n0))] → W p l e rmMo_cut s m [.ref mo, .int (iI i), .int (iI n0)].toArray below meth c H locs 0 0 (MQ below (qMo_cut dC dI dA mo ft lf hg kk tx pn tk fm tO tl mI mT mS mC mL mB mF mU mX mP mK mD mZ i n0 N A) [.ref mo, .int (iI i), .int (iI n0)].toArray s 0 0 A) (F0 m 2 ls []) := by
    intro n
    induction n with
    | zero => intro D9 j H locs ls hj h0 h1 ho hn; omega
    | succ n ih =>
      intro D9 j H locs ls hj h0 h1 ho hn hP hD hS hl
      have ih2 := ih
      refine lv_iload_n hx hb dMo_cut_2 rfl (lv_at hl 0 rfl) ?_
      refine lv_aload_n hx hb dMo_cut_3 rfl (lv_at hl 1 rfl) ?_
      refine va_get (D := (dC, dI)) (ci := 7) (v := .ref (mo + 13)) (C := "MacroReckonerModel") (T := TMo) (N := 23) hx hb hts inMo hown hK hP 0 rfl rfl 22 (by decide) (hts _ wt4_80) (fun _ h9 => h9) rfl dMo_cut_4 ?_
      refine lv_iload_n hx hb dMo_cut_7 rfl (lv_at hl 2 rfl) ?_
      refine iv_iald hx hb hK hP 13 0 rfl rfl (by decide) dMo_cut_8 (by omega) (by omega) ?_
      refine iv_icmp_ge (tgt := 44) hx hb dMo_cut_9 (by decide) ⟨by omega, by omega⟩ ⟨by omega, by omega⟩ (fun hc9 => ?_) (fun hc9 => ?_)
      · refine lv_aload_n hx hb dMo_cut_44 rfl (lv_at hl 1 rfl) ?_
        refine va_get (D := (dC, dI)) (ci := 7) (v := .ref (mo + 13)) (C := "MacroReckonerModel") (T := TMo) (N := 23) hx hb hts inMo hown hK hP 0 rfl rfl 22 (by decide) (hts _ wt4_80) (fun _ h9 => h9) rfl dMo_cut_45 ?_
        refine lv_iload_n hx hb dMo_cut_48 rfl (lv_at hl 2 rfl) ?_
        refine lv_aload_n hx hb dMo_cut_49 rfl (lv_at hl 1 rfl) ?_
        refine va_get (D := (dC, dI)) (ci := 7) (v := .ref (mo + 13)) (C := "MacroReckonerModel") (T := TMo) (N := 23) hx hb hts inMo hown hK hP 0 rfl rfl 22 (by decide) (hts _ wt4_80) (fun _ h9 => h9) rfl dMo_cut_50 ?_
        refine lv_iload_n hx hb dMo_cut_53 rfl (lv_at hl 2 rfl) ?_
        refine iv_iald hx hb hK hP 13 0 rfl rfl (by decide) dMo_cut_54 (by omega) (by omega) ?_
        refine lv_iload_n hx hb dMo_cut_55 rfl (lv_at hl 3 rfl) ?_
        refine iv_icmp_le (tgt := 70) hx hb dMo_cut_56 (by decide) ⟨by omega, by omega⟩ ⟨by omega, by omega⟩ (fun hc56 => ?_) (fun hc56 => ?_)
        · refine lv_iconst (v := iI 0) hx hb dMo_cut_70 rfl ?_
          refine iv_iast (v := 0) hx hb hK hP hD hS 13 0 rfl rfl (by decide) dMo_cut_71 (by omega) (by omega) (fun H locs hP hD hS => ?_)
          have hP : va_P (dC, dI) vwCl (wMo dA mo ft lf hg kk tx pn tk fm tO tl mI mT mS mC mL mB mF mU mX mP mK D9 (up mZ i 0) []) H := hP
          have hD : va_D A (wMo dA mo ft lf hg kk tx pn tk fm tO tl mI mT mS mC mL mB mF mU mX mP mK D9 (up mZ i 0) []) := hD
          exact rt_v hx hb hr hlocks hK hS dMo_cut_72 (D9, up mZ i 0) hP hD (show MR D9 (up mZ i 0) i (N / PW 10 n0) ∧ others mD mZ D9 (up mZ i 0) i from by first | exact ⟨mcut_e hM hn0.1 (by omega) (fun t x y => h0 t x (by omega)), ho, fun t x => up_n x⟩ | exact ⟨mcut_0 hM (by omega), ho, fun t x => up_n x⟩)
        · refine lv_aload_n hx hb dMo_cut_59 rfl (lv_at hl 1 rfl) ?_
          refine va_get (D := (dC, dI)) (ci := 7) (v := .ref (mo + 13)) (C := "MacroReckonerModel") (T := TMo) (N := 23) hx hb hts inMo hown hK hP 0 rfl rfl 22 (by decide) (hts _ wt4_80) (fun _ h9 => h9) rfl dMo_cut_60 ?_
          refine lv_iload_n hx hb dMo_cut_63 rfl (lv_at hl 2 rfl) ?_
          refine iv_iald hx hb hK hP 13 0 rfl rfl (by decide) dMo_cut_64 (by omega) (by omega) ?_
          refine lv_iload_n hx hb dMo_cut_65 rfl (lv_at hl 3 rfl) ?_
          refine iv_isub hx hb dMo_cut_66 ?_
          refine lv_goto (tgt := 71) hx hb dMo_cut_67 (by decide) ?_
          refine iv_iast (v := (mZ i) - n0) hx hb hK hP hD hS 13 0 rfl rfl (by decide) dMo_cut_71 (by omega) (by omega) (fun H locs hP hD hS => ?_)
          have hP : va_P (dC, dI) vwCl (wMo dA mo ft lf hg kk tx pn tk fm tO tl mI mT mS mC mL mB mF mU mX mP mK D9 (up mZ i ((mZ i) - n0)) []) H := hP
          have hD : va_D A (wMo dA mo ft lf hg kk tx pn tk fm tO tl mI mT mS mC mL mB mF mU mX mP mK D9 (up mZ i ((mZ i) - n0)) []) := hD
          exact rt_v hx hb hr hlocks hK hS dMo_cut_72 (D9, up mZ i ((mZ i) - n0)) hP hD (show MR D9 (up mZ i ((mZ i) - n0)) i (N / PW 10 n0) ∧ others mD mZ D9 (up mZ i ((mZ i) - n0)) i from by first | exact ⟨mcut_e hM hn0.1 (by omega) (fun t x y => h0 t x (by omega)), ho, fun t x => up_n x⟩ | exact ⟨mcut_0 hM (by omega), ho, fun t x => up_n x⟩)
      · refine lv_aload_n hx hb dMo_cut_12 rfl (lv_at hl 1 rfl) ?_
        refine va_get (D := (dC, dI)) (ci := 7) (v := .ref (mo + 12)) (C := "MacroReckonerModel") (T := TMo) (N := 23) hx hb hts inMo hown hK hP 0 rfl rfl 21 (by decide) (hts _ wt4_79) (fun _ h9 => h9) rfl dMo_cut_13 ?_
        refine lv_sipush (v := iI 340) hx hb dMo_cut_16 (by decide) ?_
        refine lv_iload_n hx hb dMo_cut_19 rfl (lv_at hl 2 rfl) ?_
        refine iv_imul hx hb dMo_cut_20 ?_
        refine lv_iload_n hx hb dMo_cut_21 rfl (lv_at hl 0 rfl) ?_
        refine iv_iadd hx hb dMo_cut_22 ?_
        refine lv_iload_n hx hb dMo_cut_23 rfl (lv_at hl 3 rfl) ?_
        refine iv_isub hx hb dMo_cut_24 ?_
        refine lv_aload_n hx hb dMo_cut_25 rfl (lv_at hl 1 rfl) ?_
        refine va_get (D := (dC, dI)) (ci := 7) (v := .ref (mo + 12)) (C := "MacroReckonerModel") (T := TMo) (N := 23) hx hb hts inMo hown hK hP 0 rfl rfl 21 (by decide) (hts _ wt4_79) (fun _ h9 => h9) rfl dMo_cut_26 ?_
        refine lv_sipush (v := iI 340) hx hb dMo_cut_29 (by decide) ?_
        refine lv_iload_n hx hb dMo_cut_32 rfl (lv_at hl 2 rfl) ?_
        refine iv_imul hx hb dMo_cut_33 ?_
        refine lv_iload_n hx hb dMo_cut_34 rfl (lv_at hl 0 rfl) ?_
        refine iv_iadd hx hb dMo_cut_35 ?_
        refine iv_iald hx hb hK hP 12 0 rfl rfl (by decide) dMo_cut_36 (by omega) (by omega) ?_
        refine iv_iast (v := D9 ((340 * i) + j)) hx hb hK hP hD hS 12 0 rfl rfl (by decide) dMo_cut_37 (by omega) (by omega) (fun H locs hP hD hS => ?_)
        have hP : va_P (dC, dI) vwCl (wMo dA mo ft lf hg kk tx pn tk fm tO tl mI mT mS mC mL mB mF mU mX mP mK (up D9 (((340 * i) + j) - n0) (D9 ((340 * i) + j))) mZ []) H := hP
        have hD : va_D A (wMo dA mo ft lf hg kk tx pn tk fm tO tl mI mT mS mC mL mB mF mU mX mP mK (up D9 (((340 * i) + j) - n0) (D9 ((340 * i) + j))) mZ []) := hD
        refine lv_iinc (k := 0) (lv' := [(3, .int (iI (j + 1))), (0, .ref mo), (1, .int (iI i)), (2, .int (iI n0))]) (v := iI (j + 1)) hx hb dMo_cut_38 hl rfl (iI_add _ _).symm (by decide) rfl (fun ls hl => ?_)
        refine lv_goto (tgt := 2) hx hb dMo_cut_41 (by decide) ?_
        exact ih2 (up D9 (((340 * i) + j) - n0) (D9 ((340 * i) + j))) (j + 1) H locs ls (by omega) (by intro t x y; by_cases z : t = j - n0; rw [z, show 340 * i + (j - n0) = 340 * i + j - n0 by omega, up_s, h1 j (by omega) (by omega)]; congr 1; omega; rw [up_n (by omega)]; exact h0 t x (by omega)) (by intro t x y; rw [up_n (by omega)]; exact h1 t (by omega) y) (by intro p x; rw [up_n (by omega)]; exact ho p x) (by omega) hP hD hS (lv_sub hl [0, 1, 2, 3] rfl)
  exact L2 _ mD n0 H locs ls (by omega) (by intro t x y; omega) (by intro t _ _; rfl) (by intro p _; rfl) (Nat.lt_succ_self _) hP hD hS (lv_sub hl [0, 1, 2, 3] rfl)
