theorem dMo_append_0 : decode prog_9_method_7_code 0 = .ok (.iload_n 2, 1) := by decide +kernel
theorem dMo_append_1 : decode prog_9_method_7_code 1 = .ok (.ifCond .ge 7, 3) := by decide +kernel
theorem dMo_append_4 : decode prog_9_method_7_code 4 = .ok (.iconst 1, 1) := by decide +kernel
theorem dMo_append_5 : decode prog_9_method_7_code 5 = .ok (.goto 4, 3) := by decide +kernel
theorem dMo_append_8 : decode prog_9_method_7_code 8 = .ok (.iload_n 2, 1) := by decide +kernel
theorem dMo_append_9 : decode prog_9_method_7_code 9 = .ok (.istore 4, 2) := by decide +kernel
theorem dMo_append_11 : decode prog_9_method_7_code 11 = .ok (.aload_n 0, 1) := by decide +kernel
theorem dMo_append_12 : decode prog_9_method_7_code 12 = .ok (.getfield 47, 3) := by decide +kernel
theorem dMo_append_15 : decode prog_9_method_7_code 15 = .ok (.iload_n 1, 1) := by decide +kernel
theorem dMo_append_16 : decode prog_9_method_7_code 16 = .ok (.iaload, 1) := by decide +kernel
theorem dMo_append_17 : decode prog_9_method_7_code 17 = .ok (.iconst 1, 1) := by decide +kernel
theorem dMo_append_18 : decode prog_9_method_7_code 18 = .ok (.isub, 1) := by decide +kernel
theorem dMo_append_19 : decode prog_9_method_7_code 19 = .ok (.istore 5, 2) := by decide +kernel
theorem dMo_append_21 : decode prog_9_method_7_code 21 = .ok (.iload 5, 2) := by decide +kernel
theorem dMo_append_23 : decode prog_9_method_7_code 23 = .ok (.ifCond .lt 38, 3) := by decide +kernel
theorem dMo_append_26 : decode prog_9_method_7_code 26 = .ok (.aload_n 0, 1) := by decide +kernel
theorem dMo_append_27 : decode prog_9_method_7_code 27 = .ok (.getfield 44, 3) := by decide +kernel
theorem dMo_append_30 : decode prog_9_method_7_code 30 = .ok (.sipush 340, 3) := by decide +kernel
theorem dMo_append_33 : decode prog_9_method_7_code 33 = .ok (.iload_n 1, 1) := by decide +kernel
theorem dMo_append_34 : decode prog_9_method_7_code 34 = .ok (.imul, 1) := by decide +kernel
theorem dMo_append_35 : decode prog_9_method_7_code 35 = .ok (.iload 4, 2) := by decide +kernel
theorem dMo_append_37 : decode prog_9_method_7_code 37 = .ok (.iadd, 1) := by decide +kernel
theorem dMo_append_38 : decode prog_9_method_7_code 38 = .ok (.iload 5, 2) := by decide +kernel
theorem dMo_append_40 : decode prog_9_method_7_code 40 = .ok (.iadd, 1) := by decide +kernel
theorem dMo_append_41 : decode prog_9_method_7_code 41 = .ok (.aload_n 0, 1) := by decide +kernel
theorem dMo_append_42 : decode prog_9_method_7_code 42 = .ok (.getfield 44, 3) := by decide +kernel
theorem dMo_append_45 : decode prog_9_method_7_code 45 = .ok (.sipush 340, 3) := by decide +kernel
theorem dMo_append_48 : decode prog_9_method_7_code 48 = .ok (.iload_n 1, 1) := by decide +kernel
theorem dMo_append_49 : decode prog_9_method_7_code 49 = .ok (.imul, 1) := by decide +kernel
theorem dMo_append_50 : decode prog_9_method_7_code 50 = .ok (.iload 5, 2) := by decide +kernel
theorem dMo_append_52 : decode prog_9_method_7_code 52 = .ok (.iadd, 1) := by decide +kernel
theorem dMo_append_53 : decode prog_9_method_7_code 53 = .ok (.iaload, 1) := by decide +kernel
theorem dMo_append_54 : decode prog_9_method_7_code 54 = .ok (.iastore, 1) := by decide +kernel
theorem dMo_append_55 : decode prog_9_method_7_code 55 = .ok (.iinc 5 (-1), 3) := by decide +kernel
theorem dMo_append_58 : decode prog_9_method_7_code 58 = .ok (.goto (-37), 3) := by decide +kernel
theorem dMo_append_61 : decode prog_9_method_7_code 61 = .ok (.iconst 0, 1) := by decide +kernel
theorem dMo_append_62 : decode prog_9_method_7_code 62 = .ok (.istore 5, 2) := by decide +kernel
theorem dMo_append_64 : decode prog_9_method_7_code 64 = .ok (.iload 5, 2) := by decide +kernel
theorem dMo_append_66 : decode prog_9_method_7_code 66 = .ok (.iload 4, 2) := by decide +kernel
theorem dMo_append_68 : decode prog_9_method_7_code 68 = .ok (.if_icmp .ge 31, 3) := by decide +kernel
theorem dMo_append_71 : decode prog_9_method_7_code 71 = .ok (.aload_n 0, 1) := by decide +kernel
theorem dMo_append_72 : decode prog_9_method_7_code 72 = .ok (.getfield 44, 3) := by decide +kernel
theorem dMo_append_75 : decode prog_9_method_7_code 75 = .ok (.sipush 340, 3) := by decide +kernel
theorem dMo_append_78 : decode prog_9_method_7_code 78 = .ok (.iload_n 1, 1) := by decide +kernel
theorem dMo_append_79 : decode prog_9_method_7_code 79 = .ok (.imul, 1) := by decide +kernel
theorem dMo_append_80 : decode prog_9_method_7_code 80 = .ok (.iload 5, 2) := by decide +kernel
theorem dMo_append_82 : decode prog_9_method_7_code 82 = .ok (.iadd, 1) := by decide +kernel
theorem dMo_append_83 : decode prog_9_method_7_code 83 = .ok (.iload_n 2, 1) := by decide +kernel
theorem dMo_append_84 : decode prog_9_method_7_code 84 = .ok (.ifCond .ge 7, 3) := by decide +kernel
theorem dMo_append_87 : decode prog_9_method_7_code 87 = .ok (.iload_n 3, 1) := by decide +kernel
theorem dMo_append_88 : decode prog_9_method_7_code 88 = .ok (.goto 4, 3) := by decide +kernel
theorem dMo_append_91 : decode prog_9_method_7_code 91 = .ok (.iconst 0, 1) := by decide +kernel
theorem dMo_append_92 : decode prog_9_method_7_code 92 = .ok (.iastore, 1) := by decide +kernel
theorem dMo_append_93 : decode prog_9_method_7_code 93 = .ok (.iinc 5 1, 3) := by decide +kernel
theorem dMo_append_96 : decode prog_9_method_7_code 96 = .ok (.goto (-32), 3) := by decide +kernel
theorem dMo_append_99 : decode prog_9_method_7_code 99 = .ok (.aload_n 0, 1) := by decide +kernel
theorem dMo_append_100 : decode prog_9_method_7_code 100 = .ok (.getfield 47, 3) := by decide +kernel
theorem dMo_append_103 : decode prog_9_method_7_code 103 = .ok (.iload_n 1, 1) := by decide +kernel
theorem dMo_append_104 : decode prog_9_method_7_code 104 = .ok (.aload_n 0, 1) := by decide +kernel
theorem dMo_append_105 : decode prog_9_method_7_code 105 = .ok (.getfield 47, 3) := by decide +kernel
theorem dMo_append_108 : decode prog_9_method_7_code 108 = .ok (.iload_n 1, 1) := by decide +kernel
theorem dMo_append_109 : decode prog_9_method_7_code 109 = .ok (.iaload, 1) := by decide +kernel
theorem dMo_append_110 : decode prog_9_method_7_code 110 = .ok (.iload 4, 2) := by decide +kernel
theorem dMo_append_112 : decode prog_9_method_7_code 112 = .ok (.iadd, 1) := by decide +kernel
theorem dMo_append_113 : decode prog_9_method_7_code 113 = .ok (.iastore, 1) := by decide +kernel
theorem dMo_append_114 : decode prog_9_method_7_code 114 = .ok (.aload_n 0, 1) := by decide +kernel
theorem dMo_append_115 : decode prog_9_method_7_code 115 = .ok (.iload_n 1, 1) := by decide +kernel
theorem dMo_append_116 : decode prog_9_method_7_code 116 = .ok (.invokevirtual 54, 3) := by decide +kernel
theorem dMo_append_119 : decode prog_9_method_7_code 119 = .ok (.return_, 1) := by decide +kernel
abbrev qMo_append (dC : Nat → ClassId) (dI : Nat → Nat → Nat) (dA : Nat → ClassId) (mo : Nat) (ft : Int) (lf : Int) (hg : Int) (kk : Int) (tx : Int) (pn : Int) (tk : Int) (fm : Int) (tO : Int) (tl : Int) (mI : Int → Int) (mT : Int → Int) (mS : Int → Int) (mC : Int → Int) (mL : Int → Int) (mB : Int → Int) (mF : Int → Int) (mU : Int → Int) (mX : Int → Int) (mP : Int → Int) (mK : Int → Int) (mD : Int → Int) (mZ : Int → Int) (i : Int) (n0 : Int) (dgt : Int) (N : Int) (A : Nat → Prop) : Array Value → State → Outcome → State → Prop := QV (dC, dI) vwCl (tyA dA) (fun (v_ : (Int → Int) × (Int → Int)) => ((n0 < 0 ∧ MR v_.1 v_.2 i (N * 10 + dgt)) ∨ (0 ≤ n0 ∧ MR v_.1 v_.2 i (N * PW 10 n0))) ∧ others mD mZ v_.1 v_.2 i) (fun (v_ : (Int → Int) × (Int → Int)) => wMo dA mo ft lf hg kk tx pn tk fm tO tl mI mT mS mC mL mB mF mU mX mP mK v_.1 v_.2 []) A
abbrev rmMo_append : Room := { frames := 1, cells := 0, slots := 0, locals := 21 }
set_option maxRecDepth 100000 in
set_option maxHeartbeats 1000000 in
theorem cMo_append (l : Launch) (dC : Nat → ClassId) (dI : Nat → Nat → Nat) (dA : Nat → ClassId) (mo : Nat) (ft : Int) (lf : Int) (hg : Int) (kk : Int) (tx : Int) (pn : Int) (tk : Int) (fm : Int) (tO : Int) (tl : Int) (mI : Int → Int) (mT : Int → Int) (mS : Int → Int) (mC : Int → Int) (mL : Int → Int) (mB : Int → Int) (mF : Int → Int) (mU : Int → Int) (mX : Int → Int) (mP : Int → Int) (mK : Int → Int) (mD : Int → Int) (mZ : Int → Int) (i : Int) (n0 : Int) (dgt : Int) (N : Int) (hi : 0 ≤ i ∧ i ≤ 4) (hn0 : (-1000 ≤ n0 ∧ n0 < 0 ∧ 0 ≤ dgt ∧ dgt ≤ 9 ∧ mZ i + 1 ≤ 340) ∨ (0 ≤ n0 ∧ mZ i + n0 ≤ 340)) (hM : MR mD mZ i N) (sz : Nat) : Met l yMo_append wsMo_append rmMo_append (PC (dC, dI) vwCl (tyA dA) XN [.ref mo, .int (iI i), .int (iI n0), .int (iI dgt)] (wMo dA mo ft lf hg kk tx pn tk fm tO tl mI mT mS mC mL mB mF mU mX mP mK mD mZ []) sz) (qMo_append dC dI dA mo ft lf hg kk tx pn tk fm tO tl mI mT mS mC mL mB mF mU mX mP mK mD mZ i n0 dgt N (va_A (wMo dA mo ft lf hg kk tx pn tk fm tO tl mI mT mS mC mL mB mF mU mX mP mK mD mZ []) sz)) 0 0 (va_A (wMo dA mo ft lf hg kk tx pn tk fm tO tl mI mT mS mC mL mB mF mU mX mP mK mD mZ []) sz) := by
  refine met_of (cc := prog_9_method_7_code) (maxL := 6) (ret := none) (Qc := qMo_append dC dI dA mo ft lf hg kk tx pn tk fm tO tl mI mT mS mC mL mB mF mU mX mP mK mD mZ i n0 dgt N) XN_ok (by decide) rfl (Nat.le_of_ble_eq_true rfl) ?_
  intro p e s m below meth c ls A hx hb hr hml hown hts hlocks hnm hK hP hD hA hX hS hl
  have hl : lv_has ls 6 [(0, .ref mo), (1, .int (iI i)), (2, .int (iI n0)), (3, .int (iI dgt))] := hl
  have hown : s.vm.findClass "MacroReckonerModel" = some m.cls := hown
  obtain ⟨H, hH⟩ : ∃ H : Heap, H = s.heap := ⟨_, rfl⟩
  obtain ⟨locs, hlo⟩ : ∃ L : List Loc, L = [] := ⟨_, rfl⟩
  have hP : va_P (dC, dI) vwCl (wMo dA mo ft lf hg kk tx pn tk fm tO tl mI mT mS mC mL mB mF mU mX mP mK mD mZ []) H := hH ▸ hP
  have hS : va_S A s.heap H locs := by rw [hH, hlo]; exact hS
  suffices hgo : W p l e rmMo_append s m [.ref mo, .int (iI i), .int (iI n0), .int (iI dgt)].toArray below meth c H locs 0 0 (MQ below (qMo_append dC dI dA mo ft lf hg kk tx pn tk fm tO tl mI mT mS mC mL mB mF mU mX mP mK mD mZ i n0 dgt N A) [.ref mo, .int (iI i), .int (iI n0), .int (iI dgt)].toArray s 0 0 A) (F0 m 0 ls []) by rw [hH, hlo] at hgo; exact hgo
  clear hH hlo
  have hz := hM.1.1
  refine lv_iload_n hx hb dMo_append_0 rfl (lv_at hl 2 rfl) ?_
  refine iv_if_ge (tgt := 8) hx hb dMo_append_1 (by decide) ⟨by omega, by omega⟩ (fun hc1 => ?_) (fun hc1 => ?_)
  · refine lv_iload_n hx hb dMo_append_8 rfl (lv_at hl 2 rfl) ?_
    refine lv_istore (lv' := [(4, .int (iI n0)), (0, .ref mo), (1, .int (iI i)), (2, .int (iI n0)), (3, .int (iI dgt))]) hx hb dMo_append_9 hl (by decide) rfl (fun ls hl => ?_)
    obtain ⟨mn, e_mn⟩ : ∃ z : Int, z = n0 := ⟨_, rfl⟩
    have hl : lv_has ls 6 [(4, .int (iI mn)), (0, .ref mo), (1, .int (iI i)), (2, .int (iI n0)), (3, .int (iI dgt))] := by rw [e_mn]; exact hl
    have hmn : 0 ≤ mn ∧ mZ i + mn ≤ 340 := by omega
    refine lv_aload_n hx hb dMo_append_11 rfl (lv_at hl 1 rfl) ?_
    refine va_get (D := (dC, dI)) (ci := 7) (v := .ref (mo + 13)) (C := "MacroReckonerModel") (T := TMo) (N := 23) hx hb hts inMo hown hK hP 0 rfl rfl 22 (by decide) (hts _ wt4_80) (fun _ h9 => h9) rfl dMo_append_12 ?_
    refine lv_iload_n hx hb dMo_append_15 rfl (lv_at hl 2 rfl) ?_
    refine iv_iald hx hb hK hP 13 0 rfl rfl (by decide) dMo_append_16 (by omega) (by omega) ?_
    refine lv_iconst (v := iI 1) hx hb dMo_append_17 rfl ?_
    refine iv_isub hx hb dMo_append_18 ?_
    refine lv_istore (lv' := [(5, .int (iI ((mZ i) - 1))), (4, .int (iI mn)), (0, .ref mo), (1, .int (iI i)), (2, .int (iI n0)), (3, .int (iI dgt))]) hx hb dMo_append_19 hl (by decide) rfl (fun ls hl => ?_)
    have L21 : ∀ (n : Nat) (D9 : Int → Int) (j : Int) (H : Heap) (locs : List Loc) (ls : Array Slot), (-1 ≤ j ∧ j < mZ i) → (∀ t, j < t → t < mZ i → D9 (340 * i + mn + t) = mD (340 * i + t)) → (∀ t, 0 ≤ t → t ≤ j → D9 (340 * i + t) = mD (340 * i + t)) → (∀ p, p < 340 * i ∨ 340 * i + 340 ≤ p → D9 p = mD p) → (j + 1).toNat < n → va_P (dC, dI) vwCl (wMo dA mo ft lf hg kk tx pn tk fm tO tl mI mT mS mC mL mB mF mU mX mP mK D9 mZ []) H → va_D A (wMo dA mo ft lf hg kk tx pn tk fm tO tl mI mT mS mC mL mB mF mU mX mP mK D9 mZ []) → va_S A s.heap H locs → lv_has ls 6 [(5, .int (iI j)), (4, .int (iI mn)), (0, .ref mo), (1, .int (iI i)), (2, .int (iI n0)), (3, .int (iI dgt))] → W p l e rmMo_append s m [.ref mo, .int (iI i), .int (iI n0), .int (iI dgt)].toArray below meth c H locs 0 0 (MQ below (qMo_append dC dI dA mo ft lf hg kk tx pn tk fm tO tl mI mT mS mC mL mB mF mU mX mP mK mD mZ i n0 dgt N A) [.ref mo, .int (iI i), .int (iI n0), .int (iI dgt)].toArray s 0 0 A) (F0 m 21 ls []) := by
      intro n
      induction n with
      | zero => intro D9 j H locs ls hj h0 h1 ho hn; omega
      | succ n ih =>
        intro D9 j H locs ls hj h0 h1 ho hn hP hD hS hl
        have ih21 := ih
        refine lv_iload hx hb dMo_append_21 (lv_at hl 0 rfl) ?_
        refine iv_if_lt (tgt := 61) hx hb dMo_append_23 (by decide) ⟨by omega, by omega⟩ (fun hc23 => ?_) (fun hc23 => ?_)
        · refine lv_iconst (v := iI 0) hx hb dMo_append_61 rfl ?_
          refine lv_istore (lv' := [(5, .int (iI 0)), (4, .int (iI mn)), (0, .ref mo), (1, .int (iI i)), (2, .int (iI n0)), (3, .int (iI dgt))]) hx hb dMo_append_62 hl (by decide) rfl (fun ls hl => ?_)
          have L64 : ∀ (n : Nat) (D8 : Int → Int) (j : Int) (H : Heap) (locs : List Loc) (ls : Array Slot), (0 ≤ j ∧ j ≤ mn) → (∀ t, 0 ≤ t → t < j → D8 (340 * i + t) = (if n0 < 0 then dgt else 0)) → (∀ t, 0 ≤ t → t < mZ i → D8 (340 * i + mn + t) = mD (340 * i + t)) → (∀ p, p < 340 * i ∨ 340 * i + 340 ≤ p → D8 p = mD p) → (mn - j).toNat < n → va_P (dC, dI) vwCl (wMo dA mo ft lf hg kk tx pn tk fm tO tl mI mT mS mC mL mB mF mU mX mP mK D8 mZ []) H → va_D A (wMo dA mo ft lf hg kk tx pn tk fm tO tl mI mT mS mC mL mB mF mU mX mP mK D8 mZ []) → va_S A s.heap H locs → lv_has ls 6 [(5, .int (iI j)), (4, .int (iI mn)), (0, .ref mo), (1, .int (iI i)), (2, .int (iI n0)), (3, .int (iI dgt))] → W p l e rmMo_append s m [.ref mo, .int (iI i), .int (iI n0), .int (iI dgt)].toArray below meth c H locs 0 0 (MQ below (qMo_append dC dI dA mo ft lf hg kk tx pn tk fm tO tl mI mT mS mC mL mB mF mU mX mP mK mD mZ i n0 dgt N A) [.ref mo, .int (iI i), .int (iI n0), .int (iI dgt)].toArray s 0 0 A) (F0 m 64 ls []) := by
            intro n
            induction n with
            | zero => intro D8 j H locs ls hj8 h08 h18 ho8 hn; omega
            | succ n ih =>
              intro D8 j H locs ls hj8 h08 h18 ho8 hn hP hD hS hl
              have ih64 := ih
              refine lv_iload hx hb dMo_append_64 (lv_at hl 0 rfl) ?_
              refine lv_iload hx hb dMo_append_66 (lv_at hl 1 rfl) ?_
              refine iv_icmp_ge (tgt := 99) hx hb dMo_append_68 (by decide) ⟨by omega, by omega⟩ ⟨by omega, by omega⟩ (fun hc68 => ?_) (fun hc68 => ?_)
              · refine lv_aload_n hx hb dMo_append_99 rfl (lv_at hl 2 rfl) ?_
                refine va_get (D := (dC, dI)) (ci := 7) (v := .ref (mo + 13)) (C := "MacroReckonerModel") (T := TMo) (N := 23) hx hb hts inMo hown hK hP 0 rfl rfl 22 (by decide) (hts _ wt4_80) (fun _ h9 => h9) rfl dMo_append_100 ?_
                refine lv_iload_n hx hb dMo_append_103 rfl (lv_at hl 3 rfl) ?_
                refine lv_aload_n hx hb dMo_append_104 rfl (lv_at hl 2 rfl) ?_
                refine va_get (D := (dC, dI)) (ci := 7) (v := .ref (mo + 13)) (C := "MacroReckonerModel") (T := TMo) (N := 23) hx hb hts inMo hown hK hP 0 rfl rfl 22 (by decide) (hts _ wt4_80) (fun _ h9 => h9) rfl dMo_append_105 ?_
                refine lv_iload_n hx hb dMo_append_108 rfl (lv_at hl 3 rfl) ?_
                refine iv_iald hx hb hK hP 13 0 rfl rfl (by decide) dMo_append_109 (by omega) (by omega) ?_
                refine lv_iload hx hb dMo_append_110 (lv_at hl 1 rfl) ?_
                refine iv_iadd hx hb dMo_append_112 ?_
                refine iv_iast (v := (mZ i) + mn) hx hb hK hP hD hS 13 0 rfl rfl (by decide) dMo_append_113 (by omega) (by omega) (fun H locs hP hD hS => ?_)
                have hP : va_P (dC, dI) vwCl (wMo dA mo ft lf hg kk tx pn tk fm tO tl mI mT mS mC mL mB mF mU mX mP mK D8 (up mZ i ((mZ i) + mn)) []) H := hP
                have hD : va_D A (wMo dA mo ft lf hg kk tx pn tk fm tO tl mI mT mS mC mL mB mF mU mX mP mK D8 (up mZ i ((mZ i) + mn)) []) := hD
                refine lv_aload_n hx hb dMo_append_114 rfl (lv_at hl 2 rfl) ?_
                refine lv_iload_n hx hb dMo_append_115 rfl (lv_at hl 3 rfl) ?_
                refine cv_v (va_runV (C := "MacroReckonerModel") (As := [.int (iI i)]) (rest := []) ⟨hx, hb, hml, hown, hts⟩ (cMo_trim l dC dI dA mo ft lf hg kk tx pn tk fm tO tl mI mT mS mC mL mB mF mU mX mP mK D8 ((up mZ i ((mZ i) + mn))) i (N * PW 10 mn) (by omega) (by exact app_n hM hmn.1 hmn.2 (fun t x y => by rw [h08 t x (by omega), if_neg (by omega)]) h18) H.size) (cwV 1 hts (gdV wt4_191 wt4_193 ws4_2 wt1_8 wt4_194) rfl rfl rfl ⟨rfl, by decide, by decide, by decide +kernel⟩ ⟨by decide, by decide⟩) (preV (q := ("MacroReckonerModel", TMo, 23)) hK hP hD hS hA XN_ok trivial [0, 1, 2, 3, 4, 5, 6, 7, 8, 9, 10, 11, 12, 13] rfl rfl 0 rfl rfl) rfl rfl hl.1 rfl (lv_room (Nat.le_of_ble_eq_true rfl)) dMo_append_116 ⟨Nat.zero_le _, Nat.zero_le _⟩) hP hD hS hA [0, 1, 2, 3, 4, 5, 6, 7, 8, 9, 10, 11, 12, 13] [] rfl (fun v_ => wMo dA mo ft lf hg kk tx pn tk fm tO tl mI mT mS mC mL mB mF mU mX mP mK D8 v_ []) (fun _ => rfl) ([] : va_W) rfl (fun _ => rfl) [mo, mo + 1, mo + 2, mo + 3, mo + 4, mo + 5, mo + 6, mo + 7, mo + 8, mo + 9, mo + 10, mo + 11, mo + 12, mo + 13] rfl (fun _ => rfl) (fun _ => rfl) (fun u_ H locs hq116 hP hD hS => ?_)
                obtain ⟨Z7, rfl⟩ : ∃ z, z = u_ := ⟨_, rfl⟩
                have hP : va_P (dC, dI) vwCl (wMo dA mo ft lf hg kk tx pn tk fm tO tl mI mT mS mC mL mB mF mU mX mP mK D8 Z7 []) H := hP
                have hD : va_D A (wMo dA mo ft lf hg kk tx pn tk fm tO tl mI mT mS mC mL mB mF mU mX mP mK D8 Z7 []) := hD
                have hq116 : MR D8 Z7 i (N * PW 10 mn) ∧ ∀ j, j ≠ i → Z7 j = ((up mZ i ((mZ i) + mn))) j := hq116
                exact rt_v hx hb hr hlocks hK hS dMo_append_119 (D8, Z7) hP hD (show ((n0 < 0 ∧ MR D8 Z7 i (N * 10 + dgt)) ∨ (0 ≤ n0 ∧ MR D8 Z7 i (N * PW 10 n0))) ∧ others mD mZ D8 Z7 i from by refine ⟨?_, ho8, fun t x => by rw [hq116.2 t x, up_n x]⟩; first | exact Or.inl ⟨by omega, hq116.1⟩ | exact Or.inr ⟨by omega, by have := hq116.1; rw [e_mn] at this; exact this⟩)
              · refine lv_aload_n hx hb dMo_append_71 rfl (lv_at hl 2 rfl) ?_
                refine va_get (D := (dC, dI)) (ci := 7) (v := .ref (mo + 12)) (C := "MacroReckonerModel") (T := TMo) (N := 23) hx hb hts inMo hown hK hP 0 rfl rfl 21 (by decide) (hts _ wt4_79) (fun _ h9 => h9) rfl dMo_append_72 ?_
                refine lv_sipush (v := iI 340) hx hb dMo_append_75 (by decide) ?_
                refine lv_iload_n hx hb dMo_append_78 rfl (lv_at hl 3 rfl) ?_
                refine iv_imul hx hb dMo_append_79 ?_
                refine lv_iload hx hb dMo_append_80 (lv_at hl 0 rfl) ?_
                refine iv_iadd hx hb dMo_append_82 ?_
                refine lv_iload_n hx hb dMo_append_83 rfl (lv_at hl 4 rfl) ?_
                refine iv_if_ge (tgt := 91) hx hb dMo_append_84 (by decide) ⟨by omega, by omega⟩ (fun hc84 => ?_) (fun hc84 => absurd hc84 (by omega))
                refine lv_iconst (v := iI 0) hx hb dMo_append_91 rfl ?_
                refine iv_iast (v := 0) hx hb hK hP hD hS 12 0 rfl rfl (by decide) dMo_append_92 (by omega) (by omega) (fun H locs hP hD hS => ?_)
                have hP : va_P (dC, dI) vwCl (wMo dA mo ft lf hg kk tx pn tk fm tO tl mI mT mS mC mL mB mF mU mX mP mK (up D8 ((340 * i) + j) 0) mZ []) H := hP
                have hD : va_D A (wMo dA mo ft lf hg kk tx pn tk fm tO tl mI mT mS mC mL mB mF mU mX mP mK (up D8 ((340 * i) + j) 0) mZ []) := hD
                refine lv_iinc (k := 0) (lv' := [(5, .int (iI (j + 1))), (4, .int (iI mn)), (0, .ref mo), (1, .int (iI i)), (2, .int (iI n0)), (3, .int (iI dgt))]) (v := iI (j + 1)) hx hb dMo_append_93 hl rfl (iI_add _ _).symm (by decide) rfl (fun ls hl => ?_)
                refine lv_goto (tgt := 64) hx hb dMo_append_96 (by decide) ?_
                exact ih64 (up D8 ((340 * i) + j) 0) (j + 1) H locs ls (by omega) (by intro t x y; by_cases z : t = j; rw [z, up_s]; (first | rw [if_pos (by omega)] | rw [if_neg (by omega)]); rw [up_n (by omega)]; exact h08 t x (by omega)) (by intro t x y; rw [up_n (by omega)]; exact h18 t x y) (by intro p x; rw [up_n (by omega)]; exact ho8 p x) (by omega) hP hD hS (lv_sub hl [0, 1, 2, 3, 4, 5] rfl)
          exact L64 _ D9 0 H locs ls (by omega) (by intro t x y; omega) (by intro t x y; exact h0 t (by omega) y) (by exact ho) (Nat.lt_succ_self _) hP hD hS (lv_sub hl [0, 1, 2, 3, 4, 5] rfl)
        · refine lv_aload_n hx hb dMo_append_26 rfl (lv_at hl 2 rfl) ?_
          refine va_get (D := (dC, dI)) (ci := 7) (v := .ref (mo + 12)) (C := "MacroReckonerModel") (T := TMo) (N := 23) hx hb hts inMo hown hK hP 0 rfl rfl 21 (by decide) (hts _ wt4_79) (fun _ h9 => h9) rfl dMo_append_27 ?_
          refine lv_sipush (v := iI 340) hx hb dMo_append_30 (by decide) ?_
          refine lv_iload_n hx hb dMo_append_33 rfl (lv_at hl 3 rfl) ?_
          refine iv_imul hx hb dMo_append_34 ?_
          refine lv_iload hx hb dMo_append_35 (lv_at hl 1 rfl) ?_
          refine iv_iadd hx hb dMo_append_37 ?_
          refine lv_iload hx hb dMo_append_38 (lv_at hl 0 rfl) ?_
          refine iv_iadd hx hb dMo_append_40 ?_
          refine lv_aload_n hx hb dMo_append_41 rfl (lv_at hl 2 rfl) ?_
          refine va_get (D := (dC, dI)) (ci := 7) (v := .ref (mo + 12)) (C := "MacroReckonerModel") (T := TMo) (N := 23) hx hb hts inMo hown hK hP 0 rfl rfl 21 (by decide) (hts _ wt4_79) (fun _ h9 => h9) rfl dMo_append_42 ?_
          refine lv_sipush (v := iI 340) hx hb dMo_append_45 (by decide) ?_
          refine lv_iload_n hx hb dMo_append_48 rfl (lv_at hl 3 rfl) ?_
          refine iv_imul hx hb dMo_append_49 ?_
          refine lv_iload hx hb dMo_append_50 (lv_at hl 0 rfl) ?_
          refine iv_iadd hx hb dMo_append_52 ?_
          have hdj := hM.1.2.1 j (by omega) (by omega)
          refine iv_iald hx hb hK hP 12 0 rfl rfl (by decide) dMo_append_53 (by omega) (by omega) ?_
          refine iv_iast (v := D9 ((340 * i) + j)) hx hb hK hP hD hS 12 0 rfl rfl (by decide) dMo_append_54 (by omega) (by omega) (fun H locs hP hD hS => ?_)
          have hP : va_P (dC, dI) vwCl (wMo dA mo ft lf hg kk tx pn tk fm tO tl mI mT mS mC mL mB mF mU mX mP mK (up D9 (((340 * i) + mn) + j) (D9 ((340 * i) + j))) mZ []) H := hP
          have hD : va_D A (wMo dA mo ft lf hg kk tx pn tk fm tO tl mI mT mS mC mL mB mF mU mX mP mK (up D9 (((340 * i) + mn) + j) (D9 ((340 * i) + j))) mZ []) := hD
          refine lv_iinc (k := 0) (lv' := [(5, .int (iI (j - 1))), (4, .int (iI mn)), (0, .ref mo), (1, .int (iI i)), (2, .int (iI n0)), (3, .int (iI dgt))]) (v := iI (j - 1)) hx hb dMo_append_55 hl rfl (by rw [show (Int32.ofInt (-1)) = iI (-1) from rfl, ← iI_add]; congr 1) (by decide) rfl (fun ls hl => ?_)
          refine lv_goto (tgt := 21) hx hb dMo_append_58 (by decide) ?_
          exact ih21 (up D9 (((340 * i) + mn) + j) (D9 ((340 * i) + j))) (j - 1) H locs ls (by omega) (by intro t x y; by_cases z : t = j; rw [z, up_s]; exact h1 j (by omega) (by omega); rw [up_n (by omega)]; exact h0 t (by omega) y) (by intro t x y; rw [up_n (by omega)]; exact h1 t x (by omega)) (by intro p x; rw [up_n (by omega)]; exact ho p x) (by omega) hP hD hS (lv_sub hl [0, 1, 2, 3, 4, 5] rfl)
    exact L21 _ mD ((mZ i) - 1) H locs ls (by omega) (by intro t x y; omega) (by intro t _ _; rfl) (by intro p _; rfl) (Nat.lt_succ_self _) hP hD hS (lv_sub hl [0, 1, 2, 3, 4, 5] rfl)
  · refine lv_iconst (v := iI 1) hx hb dMo_append_4 rfl ?_
    refine lv_goto (tgt := 9) hx hb dMo_append_5 (by decide) ?_
    refine lv_istore (lv' := [(4, .int (iI 1)), (0, .ref mo), (1, .int (iI i)), (2, .int (iI n0)), (3, .int (iI dgt))]) hx hb dMo_append_9 hl (by decide) rfl (fun ls hl => ?_)
    obtain ⟨mn, e_mn⟩ : ∃ z : Int, z = 1 := ⟨_, rfl⟩
    have hl : lv_has ls 6 [(4, .int (iI mn)), (0, .ref mo), (1, .int (iI i)), (2, .int (iI n0)), (3, .int (iI dgt))] := by rw [e_mn]; exact hl
    have hmn : 0 ≤ mn ∧ mZ i + mn ≤ 340 := by omega
    refine lv_aload_n hx hb dMo_append_11 rfl (lv_at hl 1 rfl) ?_
    refine va_get (D := (dC, dI)) (ci := 7) (v := .ref (mo + 13)) (C := "MacroReckonerModel") (T := TMo) (N := 23) hx hb hts inMo hown hK hP 0 rfl rfl 22 (by decide) (hts _ wt4_80) (fun _ h9 => h9) rfl dMo_append_12 ?_
    refine lv_iload_n hx hb dMo_append_15 rfl (lv_at hl 2 rfl) ?_
    refine iv_iald hx hb hK hP 13 0 rfl rfl (by decide) dMo_append_16 (by omega) (by omega) ?_
    refine lv_iconst (v := iI 1) hx hb dMo_append_17 rfl ?_
    refine iv_isub hx hb dMo_append_18 ?_
    refine lv_istore (lv' := [(5, .int (iI ((mZ i) - 1))), (4, .int (iI mn)), (0, .ref mo), (1, .int (iI i)), (2, .int (iI n0)), (3, .int (iI dgt))]) hx hb dMo_append_19 hl (by decide) rfl (fun ls hl => ?_)
    have L21 : ∀ (n : Nat) (D9 : Int → Int) (j : Int) (H : Heap) (locs : List Loc) (ls : Array Slot), (-1 ≤ j ∧ j < mZ i) → (∀ t, j < t → t < mZ i → D9 (340 * i + mn + t) = mD (340 * i + t)) → (∀ t, 0 ≤ t → t ≤ j → D9 (340 * i + t) = mD (340 * i + t)) → (∀ p, p < 340 * i ∨ 340 * i + 340 ≤ p → D9 p = mD p) → (j + 1).toNat < n → va_P (dC, dI) vwCl (wMo dA mo ft lf hg kk tx pn tk fm tO tl mI mT mS mC mL mB mF mU mX mP mK D9 mZ []) H → va_D A (wMo dA mo ft lf hg kk tx pn tk fm tO tl mI mT mS mC mL mB mF mU mX mP mK D9 mZ []) → va_S A s.heap H locs → lv_has ls 6 [(5, .int (iI j)), (4, .int (iI mn)), (0, .ref mo), (1, .int (iI i)), (2, .int (iI n0)), (3, .int (iI dgt))] → W p l e rmMo_append s m [.ref mo, .int (iI i), .int (iI n0), .int (iI dgt)].toArray below meth c H locs 0 0 (MQ below (qMo_append dC dI dA mo ft lf hg kk tx pn tk fm tO tl mI mT mS mC mL mB mF mU mX mP mK mD mZ i n0 dgt N A) [.ref mo, .int (iI i), .int (iI n0), .int (iI dgt)].toArray s 0 0 A) (F0 m 21 ls []) := by
      intro n
      induction n with
      | zero => intro D9 j H locs ls hj h0 h1 ho hn; omega
      | succ n ih =>
        intro D9 j H locs ls hj h0 h1 ho hn hP hD hS hl
        have ih21 := ih
        refine lv_iload hx hb dMo_append_21 (lv_at hl 0 rfl) ?_
        refine iv_if_lt (tgt := 61) hx hb dMo_append_23 (by decide) ⟨by omega, by omega⟩ (fun hc23 => ?_) (fun hc23 => ?_)
        · refine lv_iconst (v := iI 0) hx hb dMo_append_61 rfl ?_
          refine lv_istore (lv' := [(5, .int (iI 0)), (4, .int (iI mn)), (0, .ref mo), (1, .int (iI i)), (2, .int (iI n0)), (3, .int (iI dgt))]) hx hb dMo_append_62 hl (by decide) rfl (fun ls hl => ?_)
          have L64 : ∀ (n : Nat) (D8 : Int → Int) (j : Int) (H : Heap) (locs : List Loc) (ls : Array Slot), (0 ≤ j ∧ j ≤ mn) → (∀ t, 0 ≤ t → t < j → D8 (340 * i + t) = (if n0 < 0 then dgt else 0)) → (∀ t, 0 ≤ t → t < mZ i → D8 (340 * i + mn + t) = mD (340 * i + t)) → (∀ p, p < 340 * i ∨ 340 * i + 340 ≤ p → D8 p = mD p) → (mn - j).toNat < n → va_P (dC, dI) vwCl (wMo dA mo ft lf hg kk tx pn tk fm tO tl mI mT mS mC mL mB mF mU mX mP mK D8 mZ []) H → va_D A (wMo dA mo ft lf hg kk tx pn tk fm tO tl mI mT mS mC mL mB mF mU mX mP mK D8 mZ []) → va_S A s.heap H locs → lv_has ls 6 [(5, .int (iI j)), (4, .int (iI mn)), (0, .ref mo), (1, .int (iI i)), (2, .int (iI n0)), (3, .int (iI dgt))] → W p l e rmMo_append s m [.ref mo, .int (iI i), .int (iI n0), .int (iI dgt)].toArray below meth c H locs 0 0 (MQ below (qMo_append dC dI dA mo ft lf hg kk tx pn tk fm tO tl mI mT mS mC mL mB mF mU mX mP mK mD mZ i n0 dgt N A) [.ref mo, .int (iI i), .int (iI n0), .int (iI dgt)].toArray s 0 0 A) (F0 m 64 ls []) := by
            intro n
            induction n with
            | zero => intro D8 j H locs ls hj8 h08 h18 ho8 hn; omega
            | succ n ih =>
              intro D8 j H locs ls hj8 h08 h18 ho8 hn hP hD hS hl
              have ih64 := ih
              refine lv_iload hx hb dMo_append_64 (lv_at hl 0 rfl) ?_
              refine lv_iload hx hb dMo_append_66 (lv_at hl 1 rfl) ?_
              refine iv_icmp_ge (tgt := 99) hx hb dMo_append_68 (by decide) ⟨by omega, by omega⟩ ⟨by omega, by omega⟩ (fun hc68 => ?_) (fun hc68 => ?_)
              · refine lv_aload_n hx hb dMo_append_99 rfl (lv_at hl 2 rfl) ?_
                refine va_get (D := (dC, dI)) (ci := 7) (v := .ref (mo + 13)) (C := "MacroReckonerModel") (T := TMo) (N := 23) hx hb hts inMo hown hK hP 0 rfl rfl 22 (by decide) (hts _ wt4_80) (fun _ h9 => h9) rfl dMo_append_100 ?_
                refine lv_iload_n hx hb dMo_append_103 rfl (lv_at hl 3 rfl) ?_
                refine lv_aload_n hx hb dMo_append_104 rfl (lv_at hl 2 rfl) ?_
                refine va_get (D := (dC, dI)) (ci := 7) (v := .ref (mo + 13)) (C := "MacroReckonerModel") (T := TMo) (N := 23) hx hb hts inMo hown hK hP 0 rfl rfl 22 (by decide) (hts _ wt4_80) (fun _ h9 => h9) rfl dMo_append_105 ?_
                refine lv_iload_n hx hb dMo_append_108 rfl (lv_at hl 3 rfl) ?_
                refine iv_iald hx hb hK hP 13 0 rfl rfl (by decide) dMo_append_109 (by omega) (by omega) ?_
                refine lv_iload hx hb dMo_append_110 (lv_at hl 1 rfl) ?_
                refine iv_iadd hx hb dMo_append_112 ?_
                refine iv_iast (v := (mZ i) + mn) hx hb hK hP hD hS 13 0 rfl rfl (by decide) dMo_append_113 (by omega) (by omega) (fun H locs hP hD hS => ?_)
                have hP : va_P (dC, dI) vwCl (wMo dA mo ft lf hg kk tx pn tk fm tO tl mI mT mS mC mL mB mF mU mX mP mK D8 (up mZ i ((mZ i) + mn)) []) H := hP
                have hD : va_D A (wMo dA mo ft lf hg kk tx pn tk fm tO tl mI mT mS mC mL mB mF mU mX mP mK D8 (up mZ i ((mZ i) + mn)) []) := hD
                refine lv_aload_n hx hb dMo_append_114 rfl (lv_at hl 2 rfl) ?_
                refine lv_iload_n hx hb dMo_append_115 rfl (lv_at hl 3 rfl) ?_
                refine cv_v (va_runV (C := "MacroReckonerModel") (As := [.int (iI i)]) (rest := []) ⟨hx, hb, hml, hown, hts⟩ (cMo_trim l dC dI dA mo ft lf hg kk tx pn tk fm tO tl mI mT mS mC mL mB mF mU mX mP mK D8 ((up mZ i ((mZ i) + mn))) i (N * 10 + dgt) (by omega) (by have em : mn = 1 := (by omega); rw [em] at h18 ⊢; exact app_1 hM (by omega) (by omega) (fun t x y => by rw [h08 t x (by omega), if_pos (by omega)]) h18) H.size) (cwV 1 hts (gdV wt4_191 wt4_193 ws4_2 wt1_8 wt4_194) rfl rfl rfl ⟨rfl, by decide, by decide, by decide +kernel⟩ ⟨by decide, by decide⟩) (preV (q := ("MacroReckonerModel", TMo, 23)) hK hP hD hS hA XN_ok trivial [0, 1, 2, 3, 4, 5, 6, 7, 8, 9, 10, 11, 12, 13] rfl rfl 0 rfl rfl) rfl rfl hl.1 rfl (lv_room (Nat.le_of_ble_eq_true rfl)) dMo_append_116 ⟨Nat.zero_le _, Nat.zero_le _⟩) hP hD hS hA [0, 1, 2, 3, 4, 5, 6, 7, 8, 9, 10, 11, 12, 13] [] rfl (fun v_ => wMo dA mo ft lf hg kk tx pn tk fm tO tl mI mT mS mC mL mB mF mU mX mP mK D8 v_ []) (fun _ => rfl) ([] : va_W) rfl (fun _ => rfl) [mo, mo + 1, mo + 2, mo + 3, mo + 4, mo + 5, mo + 6, mo + 7, mo + 8, mo + 9, mo + 10, mo + 11, mo + 12, mo + 13] rfl (fun _ => rfl) (fun _ => rfl) (fun u_ H locs hq116 hP hD hS => ?_)
                obtain ⟨Z7, rfl⟩ : ∃ z, z = u_ := ⟨_, rfl⟩
                have hP : va_P (dC, dI) vwCl (wMo dA mo ft lf hg kk tx pn tk fm tO tl mI mT mS mC mL mB mF mU mX mP mK D8 Z7 []) H := hP
                have hD : va_D A (wMo dA mo ft lf hg kk tx pn tk fm tO tl mI mT mS mC mL mB mF mU mX mP mK D8 Z7 []) := hD
                have hq116 : MR D8 Z7 i (N * 10 + dgt) ∧ ∀ j, j ≠ i → Z7 j = ((up mZ i ((mZ i) + mn))) j := hq116
                exact rt_v hx hb hr hlocks hK hS dMo_append_119 (D8, Z7) hP hD (show ((n0 < 0 ∧ MR D8 Z7 i (N * 10 + dgt)) ∨ (0 ≤ n0 ∧ MR D8 Z7 i (N * PW 10 n0))) ∧ others mD mZ D8 Z7 i from by refine ⟨?_, ho8, fun t x => by rw [hq116.2 t x, up_n x]⟩; first | exact Or.inl ⟨by omega, hq116.1⟩ | exact Or.inr ⟨by omega, by have := hq116.1; rw [e_mn] at this; exact this⟩)
              · refine lv_aload_n hx hb dMo_append_71 rfl (lv_at hl 2 rfl) ?_
                refine va_get (D := (dC, dI)) (ci := 7) (v := .ref (mo + 12)) (C := "MacroReckonerModel") (T := TMo) (N := 23) hx hb hts inMo hown hK hP 0 rfl rfl 21 (by decide) (hts _ wt4_79) (fun _ h9 => h9) rfl dMo_append_72 ?_
                refine lv_sipush (v := iI 340) hx hb dMo_append_75 (by decide) ?_
                refine lv_iload_n hx hb dMo_append_78 rfl (lv_at hl 3 rfl) ?_
                refine iv_imul hx hb dMo_append_79 ?_
                refine lv_iload hx hb dMo_append_80 (lv_at hl 0 rfl) ?_
                refine iv_iadd hx hb dMo_append_82 ?_
                refine lv_iload_n hx hb dMo_append_83 rfl (lv_at hl 4 rfl) ?_
                refine iv_if_ge (tgt := 91) hx hb dMo_append_84 (by decide) ⟨by omega, by omega⟩ (fun hc84 => absurd hc84 (by omega)) (fun hc84 => ?_)
                refine lv_iload_n hx hb dMo_append_87 rfl (lv_at hl 5 rfl) ?_
                refine lv_goto (tgt := 92) hx hb dMo_append_88 (by decide) ?_
                refine iv_iast (v := dgt) hx hb hK hP hD hS 12 0 rfl rfl (by decide) dMo_append_92 (by omega) (by omega) (fun H locs hP hD hS => ?_)
                have hP : va_P (dC, dI) vwCl (wMo dA mo ft lf hg kk tx pn tk fm tO tl mI mT mS mC mL mB mF mU mX mP mK (up D8 ((340 * i) + j) dgt) mZ []) H := hP
                have hD : va_D A (wMo dA mo ft lf hg kk tx pn tk fm tO tl mI mT mS mC mL mB mF mU mX mP mK (up D8 ((340 * i) + j) dgt) mZ []) := hD
                refine lv_iinc (k := 0) (lv' := [(5, .int (iI (j + 1))), (4, .int (iI mn)), (0, .ref mo), (1, .int (iI i)), (2, .int (iI n0)), (3, .int (iI dgt))]) (v := iI (j + 1)) hx hb dMo_append_93 hl rfl (iI_add _ _).symm (by decide) rfl (fun ls hl => ?_)
                refine lv_goto (tgt := 64) hx hb dMo_append_96 (by decide) ?_
                exact ih64 (up D8 ((340 * i) + j) dgt) (j + 1) H locs ls (by omega) (by intro t x y; by_cases z : t = j; rw [z, up_s]; (first | rw [if_pos (by omega)] | rw [if_neg (by omega)]); rw [up_n (by omega)]; exact h08 t x (by omega)) (by intro t x y; rw [up_n (by omega)]; exact h18 t x y) (by intro p x; rw [up_n (by omega)]; exact ho8 p x) (by omega) hP hD hS (lv_sub hl [0, 1, 2, 3, 4, 5] rfl)
          exact L64 _ D9 0 H locs ls (by omega) (by intro t x y; omega) (by intro t x y; exact h0 t (by omega) y) (by exact ho) (Nat.lt_succ_self _) hP hD hS (lv_sub hl [0, 1, 2, 3, 4, 5] rfl)
        · refine lv_aload_n hx hb dMo_append_26 rfl (lv_at hl 2 rfl) ?_
          refine va_get (D := (dC, dI)) (ci := 7) (v := .ref (mo + 12)) (C := "MacroReckonerModel") (T := TMo) (N := 23) hx hb hts inMo hown hK hP 0 rfl rfl 21 (by decide) (hts _ wt4_79) (fun _ h9 => h9) rfl dMo_append_27 ?_
          refine lv_sipush (v := iI 340) hx hb dMo_append_30 (by decide) ?_
          refine lv_iload_n hx hb dMo_append_33 rfl (lv_at hl 3 rfl) ?_
          refine iv_imul hx hb dMo_append_34 ?_
          refine lv_iload hx hb dMo_append_35 (lv_at hl 1 rfl) ?_
          refine iv_iadd hx hb dMo_append_37 ?_
          refine lv_iload hx hb dMo_append_38 (lv_at hl 0 rfl) ?_
          refine iv_iadd hx hb dMo_append_40 ?_
          refine lv_aload_n hx hb dMo_append_41 rfl (lv_at hl 2 rfl) ?_
          refine va_get (D := (dC, dI)) (ci := 7) (v := .ref (mo + 12)) (C := "MacroReckonerModel") (T := TMo) (N := 23) hx hb hts inMo hown hK hP 0 rfl rfl 21 (by decide) (hts _ wt4_79) (fun _ h9 => h9) rfl dMo_append_42 ?_
          refine lv_sipush (v := iI 340) hx hb dMo_append_45 (by decide) ?_
          refine lv_iload_n hx hb dMo_append_48 rfl (lv_at hl 3 rfl) ?_
          refine iv_imul hx hb dMo_append_49 ?_
          refine lv_iload hx hb dMo_append_50 (lv_at hl 0 rfl) ?_
          refine iv_iadd hx hb dMo_append_52 ?_
          have hdj := hM.1.2.1 j (by omega) (by omega)
          refine iv_iald hx hb hK hP 12 0 rfl rfl (by decide) dMo_append_53 (by omega) (by omega) ?_
          refine iv_iast (v := D9 ((340 * i) + j)) hx hb hK hP hD hS 12 0 rfl rfl (by decide) dMo_append_54 (by omega) (by omega) (fun H locs hP hD hS => ?_)
          have hP : va_P (dC, dI) vwCl (wMo dA mo ft lf hg kk tx pn tk fm tO tl mI mT mS mC mL mB mF mU mX mP mK (up D9 (((340 * i) + mn) + j) (D9 ((340 * i) + j))) mZ []) H := hP
          have hD : va_D A (wMo dA mo ft lf hg kk tx pn tk fm tO tl mI mT mS mC mL mB mF mU mX mP mK (up D9 (((340 * i) + mn) + j) (D9 ((340 * i) + j))) mZ []) := hD
          refine lv_iinc (k := 0) (lv' := [(5, .int (iI (j - 1))), (4, .int (iI mn)), (0, .ref mo), (1, .int (iI i)), (2, .int (iI n0)), (3, .int (iI dgt))]) (v := iI (j - 1)) hx hb dMo_append_55 hl rfl (by rw [show (Int32.ofInt (-1)) = iI (-1) from rfl, ← iI_add]; congr 1) (by decide) rfl (fun ls hl => ?_)
          refine lv_goto (tgt := 21) hx hb dMo_append_58 (by decide) ?_
          exact ih21 (up D9 (((340 * i) + mn) + j) (D9 ((340 * i) + j))) (j - 1) H locs ls (by omega) (by intro t x y; by_cases z : t = j; rw [z, up_s]; exact h1 j (by omega) (by omega); rw [up_n (by omega)]; exact h0 t (by omega) y) (by intro t x y; rw [up_n (by omega)]; exact h1 t x (by omega)) (by intro p x; rw [up_n (by omega)]; exact ho p x) (by omega) hP hD hS (lv_sub hl [0, 1, 2, 3, 4, 5] rfl)
    exact L21 _ mD ((mZ i) - 1) H locs ls (by omega) (by intro t x y; omega) (by intro t _ _; rfl) (by intro p _; rfl) (Nat.lt_succ_self _) hP hD hS (lv_sub hl [0, 1, 2, 3, 4, 5] rfl)
