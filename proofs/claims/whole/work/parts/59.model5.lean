theorem dMo_increase_0 : decode prog_9_method_10_code 0 = .ok (.iconst 0, 1) := by decide +kernel
theorem dMo_increase_1 : decode prog_9_method_10_code 1 = .ok (.istore_n 3, 1) := by decide +kernel
theorem dMo_increase_2 : decode prog_9_method_10_code 2 = .ok (.aload_n 0, 1) := by decide +kernel
theorem dMo_increase_3 : decode prog_9_method_10_code 3 = .ok (.getfield 47, 3) := by decide +kernel
theorem dMo_increase_6 : decode prog_9_method_10_code 6 = .ok (.iload_n 1, 1) := by decide +kernel
theorem dMo_increase_7 : decode prog_9_method_10_code 7 = .ok (.iaload, 1) := by decide +kernel
theorem dMo_increase_8 : decode prog_9_method_10_code 8 = .ok (.aload_n 0, 1) := by decide +kernel
theorem dMo_increase_9 : decode prog_9_method_10_code 9 = .ok (.getfield 47, 3) := by decide +kernel
theorem dMo_increase_12 : decode prog_9_method_10_code 12 = .ok (.iload_n 2, 1) := by decide +kernel
theorem dMo_increase_13 : decode prog_9_method_10_code 13 = .ok (.iaload, 1) := by decide +kernel
theorem dMo_increase_14 : decode prog_9_method_10_code 14 = .ok (.if_icmp .le 12, 3) := by decide +kernel
theorem dMo_increase_17 : decode prog_9_method_10_code 17 = .ok (.aload_n 0, 1) := by decide +kernel
theorem dMo_increase_18 : decode prog_9_method_10_code 18 = .ok (.getfield 47, 3) := by decide +kernel
theorem dMo_increase_21 : decode prog_9_method_10_code 21 = .ok (.iload_n 1, 1) := by decide +kernel
theorem dMo_increase_22 : decode prog_9_method_10_code 22 = .ok (.iaload, 1) := by decide +kernel
theorem dMo_increase_23 : decode prog_9_method_10_code 23 = .ok (.goto 9, 3) := by decide +kernel
theorem dMo_increase_26 : decode prog_9_method_10_code 26 = .ok (.aload_n 0, 1) := by decide +kernel
theorem dMo_increase_27 : decode prog_9_method_10_code 27 = .ok (.getfield 47, 3) := by decide +kernel
theorem dMo_increase_30 : decode prog_9_method_10_code 30 = .ok (.iload_n 2, 1) := by decide +kernel
theorem dMo_increase_31 : decode prog_9_method_10_code 31 = .ok (.iaload, 1) := by decide +kernel
theorem dMo_increase_32 : decode prog_9_method_10_code 32 = .ok (.istore 4, 2) := by decide +kernel
theorem dMo_increase_34 : decode prog_9_method_10_code 34 = .ok (.iconst 0, 1) := by decide +kernel
theorem dMo_increase_35 : decode prog_9_method_10_code 35 = .ok (.istore 5, 2) := by decide +kernel
theorem dMo_increase_37 : decode prog_9_method_10_code 37 = .ok (.iload 5, 2) := by decide +kernel
theorem dMo_increase_39 : decode prog_9_method_10_code 39 = .ok (.iload 4, 2) := by decide +kernel
theorem dMo_increase_41 : decode prog_9_method_10_code 41 = .ok (.if_icmp .lt 7, 3) := by decide +kernel
theorem dMo_increase_44 : decode prog_9_method_10_code 44 = .ok (.iload_n 3, 1) := by decide +kernel
theorem dMo_increase_45 : decode prog_9_method_10_code 45 = .ok (.ifCond .le 114, 3) := by decide +kernel
theorem dMo_increase_48 : decode prog_9_method_10_code 48 = .ok (.iload_n 3, 1) := by decide +kernel
theorem dMo_increase_49 : decode prog_9_method_10_code 49 = .ok (.iload 5, 2) := by decide +kernel
theorem dMo_increase_51 : decode prog_9_method_10_code 51 = .ok (.aload_n 0, 1) := by decide +kernel
theorem dMo_increase_52 : decode prog_9_method_10_code 52 = .ok (.getfield 47, 3) := by decide +kernel
theorem dMo_increase_55 : decode prog_9_method_10_code 55 = .ok (.iload_n 1, 1) := by decide +kernel
theorem dMo_increase_56 : decode prog_9_method_10_code 56 = .ok (.iaload, 1) := by decide +kernel
theorem dMo_increase_57 : decode prog_9_method_10_code 57 = .ok (.if_icmp .ge 19, 3) := by decide +kernel
theorem dMo_increase_60 : decode prog_9_method_10_code 60 = .ok (.aload_n 0, 1) := by decide +kernel
theorem dMo_increase_61 : decode prog_9_method_10_code 61 = .ok (.getfield 44, 3) := by decide +kernel
theorem dMo_increase_64 : decode prog_9_method_10_code 64 = .ok (.sipush 340, 3) := by decide +kernel
theorem dMo_increase_67 : decode prog_9_method_10_code 67 = .ok (.iload_n 1, 1) := by decide +kernel
theorem dMo_increase_68 : decode prog_9_method_10_code 68 = .ok (.imul, 1) := by decide +kernel
theorem dMo_increase_69 : decode prog_9_method_10_code 69 = .ok (.iload 5, 2) := by decide +kernel
theorem dMo_increase_71 : decode prog_9_method_10_code 71 = .ok (.iadd, 1) := by decide +kernel
theorem dMo_increase_72 : decode prog_9_method_10_code 72 = .ok (.iaload, 1) := by decide +kernel
theorem dMo_increase_73 : decode prog_9_method_10_code 73 = .ok (.goto 4, 3) := by decide +kernel
theorem dMo_increase_76 : decode prog_9_method_10_code 76 = .ok (.iconst 0, 1) := by decide +kernel
theorem dMo_increase_77 : decode prog_9_method_10_code 77 = .ok (.iadd, 1) := by decide +kernel
theorem dMo_increase_78 : decode prog_9_method_10_code 78 = .ok (.iload 5, 2) := by decide +kernel
theorem dMo_increase_80 : decode prog_9_method_10_code 80 = .ok (.aload_n 0, 1) := by decide +kernel
theorem dMo_increase_81 : decode prog_9_method_10_code 81 = .ok (.getfield 47, 3) := by decide +kernel
theorem dMo_increase_84 : decode prog_9_method_10_code 84 = .ok (.iload_n 2, 1) := by decide +kernel
theorem dMo_increase_85 : decode prog_9_method_10_code 85 = .ok (.iaload, 1) := by decide +kernel
theorem dMo_increase_86 : decode prog_9_method_10_code 86 = .ok (.if_icmp .ge 19, 3) := by decide +kernel
theorem dMo_increase_89 : decode prog_9_method_10_code 89 = .ok (.aload_n 0, 1) := by decide +kernel
theorem dMo_increase_90 : decode prog_9_method_10_code 90 = .ok (.getfield 44, 3) := by decide +kernel
theorem dMo_increase_93 : decode prog_9_method_10_code 93 = .ok (.sipush 340, 3) := by decide +kernel
theorem dMo_increase_96 : decode prog_9_method_10_code 96 = .ok (.iload_n 2, 1) := by decide +kernel
theorem dMo_increase_97 : decode prog_9_method_10_code 97 = .ok (.imul, 1) := by decide +kernel
theorem dMo_increase_98 : decode prog_9_method_10_code 98 = .ok (.iload 5, 2) := by decide +kernel
theorem dMo_increase_100 : decode prog_9_method_10_code 100 = .ok (.iadd, 1) := by decide +kernel
theorem dMo_increase_101 : decode prog_9_method_10_code 101 = .ok (.iaload, 1) := by decide +kernel
theorem dMo_increase_102 : decode prog_9_method_10_code 102 = .ok (.goto 4, 3) := by decide +kernel
theorem dMo_increase_105 : decode prog_9_method_10_code 105 = .ok (.iconst 0, 1) := by decide +kernel
theorem dMo_increase_106 : decode prog_9_method_10_code 106 = .ok (.iadd, 1) := by decide +kernel
theorem dMo_increase_107 : decode prog_9_method_10_code 107 = .ok (.istore 6, 2) := by decide +kernel
theorem dMo_increase_109 : decode prog_9_method_10_code 109 = .ok (.aload_n 0, 1) := by decide +kernel
theorem dMo_increase_110 : decode prog_9_method_10_code 110 = .ok (.getfield 44, 3) := by decide +kernel
theorem dMo_increase_113 : decode prog_9_method_10_code 113 = .ok (.sipush 340, 3) := by decide +kernel
theorem dMo_increase_116 : decode prog_9_method_10_code 116 = .ok (.iload_n 1, 1) := by decide +kernel
theorem dMo_increase_117 : decode prog_9_method_10_code 117 = .ok (.imul, 1) := by decide +kernel
theorem dMo_increase_118 : decode prog_9_method_10_code 118 = .ok (.iload 5, 2) := by decide +kernel
theorem dMo_increase_120 : decode prog_9_method_10_code 120 = .ok (.iadd, 1) := by decide +kernel
theorem dMo_increase_121 : decode prog_9_method_10_code 121 = .ok (.iload 6, 2) := by decide +kernel
theorem dMo_increase_123 : decode prog_9_method_10_code 123 = .ok (.bipush 10, 2) := by decide +kernel
theorem dMo_increase_125 : decode prog_9_method_10_code 125 = .ok (.irem, 1) := by decide +kernel
theorem dMo_increase_126 : decode prog_9_method_10_code 126 = .ok (.iastore, 1) := by decide +kernel
theorem dMo_increase_127 : decode prog_9_method_10_code 127 = .ok (.iload 6, 2) := by decide +kernel
theorem dMo_increase_129 : decode prog_9_method_10_code 129 = .ok (.bipush 10, 2) := by decide +kernel
theorem dMo_increase_131 : decode prog_9_method_10_code 131 = .ok (.idiv, 1) := by decide +kernel
theorem dMo_increase_132 : decode prog_9_method_10_code 132 = .ok (.istore_n 3, 1) := by decide +kernel
theorem dMo_increase_133 : decode prog_9_method_10_code 133 = .ok (.iload 4, 2) := by decide +kernel
theorem dMo_increase_135 : decode prog_9_method_10_code 135 = .ok (.iload 5, 2) := by decide +kernel
theorem dMo_increase_137 : decode prog_9_method_10_code 137 = .ok (.iconst 1, 1) := by decide +kernel
theorem dMo_increase_138 : decode prog_9_method_10_code 138 = .ok (.iadd, 1) := by decide +kernel
theorem dMo_increase_139 : decode prog_9_method_10_code 139 = .ok (.if_icmp .le 8, 3) := by decide +kernel
theorem dMo_increase_142 : decode prog_9_method_10_code 142 = .ok (.iload 4, 2) := by decide +kernel
theorem dMo_increase_144 : decode prog_9_method_10_code 144 = .ok (.goto 7, 3) := by decide +kernel
theorem dMo_increase_147 : decode prog_9_method_10_code 147 = .ok (.iload 5, 2) := by decide +kernel
theorem dMo_increase_149 : decode prog_9_method_10_code 149 = .ok (.iconst 1, 1) := by decide +kernel
theorem dMo_increase_150 : decode prog_9_method_10_code 150 = .ok (.iadd, 1) := by decide +kernel
theorem dMo_increase_151 : decode prog_9_method_10_code 151 = .ok (.istore 4, 2) := by decide +kernel
theorem dMo_increase_153 : decode prog_9_method_10_code 153 = .ok (.iinc 5 1, 3) := by decide +kernel
theorem dMo_increase_156 : decode prog_9_method_10_code 156 = .ok (.goto (-119), 3) := by decide +kernel
theorem dMo_increase_159 : decode prog_9_method_10_code 159 = .ok (.aload_n 0, 1) := by decide +kernel
theorem dMo_increase_160 : decode prog_9_method_10_code 160 = .ok (.getfield 47, 3) := by decide +kernel
theorem dMo_increase_163 : decode prog_9_method_10_code 163 = .ok (.iload_n 1, 1) := by decide +kernel
theorem dMo_increase_164 : decode prog_9_method_10_code 164 = .ok (.iload 4, 2) := by decide +kernel
theorem dMo_increase_166 : decode prog_9_method_10_code 166 = .ok (.iastore, 1) := by decide +kernel
theorem dMo_increase_167 : decode prog_9_method_10_code 167 = .ok (.aload_n 0, 1) := by decide +kernel
theorem dMo_increase_168 : decode prog_9_method_10_code 168 = .ok (.iload_n 1, 1) := by decide +kernel
theorem dMo_increase_169 : decode prog_9_method_10_code 169 = .ok (.invokevirtual 54, 3) := by decide +kernel
theorem dMo_increase_172 : decode prog_9_method_10_code 172 = .ok (.return_, 1) := by decide +kernel
abbrev qMo_increase (dC : Nat → ClassId) (dI : Nat → Nat → Nat) (dA : Nat → ClassId) (mo : Nat) (ft : Int) (lf : Int) (hg : Int) (kk : Int) (tx : Int) (pn : Int) (tk : Int) (fm : Int) (tO : Int) (tl : Int) (mI : Int → Int) (mT : Int → Int) (mS : Int → Int) (mC : Int → Int) (mL : Int → Int) (mB : Int → Int) (mF : Int → Int) (mU : Int → Int) (mX : Int → Int) (mP : Int → Int) (mK : Int → Int) (mD : Int → Int) (mZ : Int → Int) (i : Int) (j : Int) (N : Int) (M : Int) (A : Nat → Prop) : Array Value → State → Outcome → State → Prop := QV (dC, dI) vwCl (tyA dA) (fun (v_ : (Int → Int) × (Int → Int)) => MR v_.1 v_.2 i (N + M) ∧ others mD mZ v_.1 v_.2 i) (fun (v_ : (Int → Int) × (Int → Int)) => wMo dA mo ft lf hg kk tx pn tk fm tO tl mI mT mS mC mL mB mF mU mX mP mK v_.1 v_.2 []) A
abbrev rmMo_increase : Room := { frames := 1, cells := 0, slots := 0, locals := 21 }
set_option maxRecDepth 100000 in
set_option maxHeartbeats 1000000 in
theorem cMo_increase (l : Launch) (dC : Nat → ClassId) (dI : Nat → Nat → Nat) (dA : Nat → ClassId) (mo : Nat) (ft : Int) (lf : Int) (hg : Int) (kk : Int) (tx : Int) (pn : Int) (tk : Int) (fm : Int) (tO : Int) (tl : Int) (mI : Int → Int) (mT : Int → Int) (mS : Int → Int) (mC : Int → Int) (mL : Int → Int) (mB : Int → Int) (mF : Int → Int) (mU : Int → Int) (mX : Int → Int) (mP : Int → Int) (mK : Int → Int) (mD : Int → Int) (mZ : Int → Int) (i : Int) (j : Int) (N : Int) (M : Int) (hi : 0 ≤ i ∧ i ≤ 4 ∧ 0 ≤ j ∧ j ≤ 4 ∧ i ≠ j) (hM : MR mD mZ i N) (hM2 : MR mD mZ j M) (hle : mZ i + 1 ≤ 340 ∧ mZ j + 1 ≤ 340) (sz : Nat) : Met l yMo_increase wsMo_increase rmMo_increase (PC (dC, dI) vwCl (tyA dA) XN [.ref mo, .int (iI i), .int (iI j)] (wMo dA mo ft lf hg kk tx pn tk fm tO tl mI mT mS mC mL mB mF mU mX mP mK mD mZ []) sz) (qMo_increase dC dI dA mo ft lf hg kk tx pn tk fm tO tl mI mT mS mC mL mB mF mU mX mP mK mD mZ i j N M (va_A (wMo dA mo ft lf hg kk tx pn tk fm tO tl mI mT mS mC mL mB mF mU mX mP mK mD mZ []) sz)) 0 0 (va_A (wMo dA mo ft lf hg kk tx pn tk fm tO tl mI mT mS mC mL mB mF mU mX mP mK mD mZ []) sz) := by
  refine met_of (cc := prog_9_method_10_code) (maxL := 7) (ret := none) (Qc := qMo_increase dC dI dA mo ft lf hg kk tx pn tk fm tO tl mI mT mS mC mL mB mF mU mX mP mK mD mZ i j N M) XN_ok (by decide) rfl (Nat.le_of_ble_eq_true rfl) ?_
  intro p e s m below meth c ls A hx hb hr hml hown hts hlocks hnm hK hP hD hA hX hS hl
  have hl : lv_has ls 7 [(0, .ref mo), (1, .int (iI i)), (2, .int (iI j))] := hl
  have hown : s.vm.findClass "MacroReckonerModel" = some m.cls := hown
  obtain ⟨H, hH⟩ : ∃ H : Heap, H = s.heap := ⟨_, rfl⟩
  obtain ⟨locs, hlo⟩ : ∃ L : List Loc, L = [] := ⟨_, rfl⟩
  have hP : va_P (dC, dI) vwCl (wMo dA mo ft lf hg kk tx pn tk fm tO tl mI mT mS mC mL mB mF mU mX mP mK mD mZ []) H := hH ▸ hP
  have hS : va_S A s.heap H locs := by rw [hH, hlo]; exact hS
  suffices hgo : W p l e rmMo_increase s m [.ref mo, .int (iI i), .int (iI j)].toArray below meth c H locs 0 0 (MQ below (qMo_increase dC dI dA mo ft lf hg kk tx pn tk fm tO tl mI mT mS mC mL mB mF mU mX mP mK mD mZ i j N M A) [.ref mo, .int (iI i), .int (iI j)].toArray s 0 0 A) (F0 m 0 ls []) by rw [hH, hlo] at hgo; exact hgo
  clear hH hlo
  have hz := hM.1.1
  have hz2 := hM2.1.1
  refine lv_iconst (v := iI 0) hx hb dMo_increase_0 rfl ?_
  refine lv_istore_n (lv' := [(3, .int (iI 0)), (0, .ref mo), (1, .int (iI i)), (2, .int (iI j))]) hx hb dMo_increase_1 rfl hl (by decide) rfl (fun ls hl => ?_)
  refine lv_aload_n hx hb dMo_increase_2 rfl (lv_at hl 1 rfl) ?_
  refine va_get (D := (dC, dI)) (ci := 7) (v := .ref (mo + 13)) (C := "MacroReckonerModel") (T := TMo) (N := 23) hx hb hts inMo hown hK hP 0 rfl rfl 22 (by decide) (hts _ wt4_80) (fun _ h9 => h9) rfl dMo_increase_3 ?_
  refine lv_iload_n hx hb dMo_increase_6 rfl (lv_at hl 2 rfl) ?_
  refine iv_iald hx hb hK hP 13 0 rfl rfl (by decide) dMo_increase_7 (by omega) (by omega) ?_
  refine lv_aload_n hx hb dMo_increase_8 rfl (lv_at hl 1 rfl) ?_
  refine va_get (D := (dC, dI)) (ci := 7) (v := .ref (mo + 13)) (C := "MacroReckonerModel") (T := TMo) (N := 23) hx hb hts inMo hown hK hP 0 rfl rfl 22 (by decide) (hts _ wt4_80) (fun _ h9 => h9) rfl dMo_increase_9 ?_
  refine lv_iload_n hx hb dMo_increase_12 rfl (lv_at hl 3 rfl) ?_
  refine iv_iald hx hb hK hP 13 0 rfl rfl (by decide) dMo_increase_13 (by omega) (by omega) ?_
  refine iv_icmp_le (tgt := 26) hx hb dMo_increase_14 (by decide) ⟨by omega, by omega⟩ ⟨by omega, by omega⟩ (fun hc14 => ?_) (fun hc14 => ?_)
  · refine lv_aload_n hx hb dMo_increase_26 rfl (lv_at hl 1 rfl) ?_
    refine va_get (D := (dC, dI)) (ci := 7) (v := .ref (mo + 13)) (C := "MacroReckonerModel") (T := TMo) (N := 23) hx hb hts inMo hown hK hP 0 rfl rfl 22 (by decide) (hts _ wt4_80) (fun _ h9 => h9) rfl dMo_increase_27 ?_
    refine lv_iload_n hx hb dMo_increase_30 rfl (lv_at hl 3 rfl) ?_
    refine iv_iald hx hb hK hP 13 0 rfl rfl (by decide) dMo_increase_31 (by omega) (by omega) ?_
    refine lv_istore (lv' := [(4, .int (iI (mZ j))), (3, .int (iI 0)), (0, .ref mo), (1, .int (iI i)), (2, .int (iI j))]) hx hb dMo_increase_32 hl (by decide) rfl (fun ls hl => ?_)
    obtain ⟨nz, e_nz⟩ : ∃ z : Int, z = mZ j := ⟨_, rfl⟩
    have hl : lv_has ls 7 [(4, .int (iI nz)), (3, .int (iI 0)), (0, .ref mo), (1, .int (iI i)), (2, .int (iI j))] := by rw [e_nz]; exact hl
    have hnz : (mZ i ≤ nz ∧ mZ j ≤ nz) ∧ (nz = mZ i ∨ nz = mZ j) := by omega
    refine lv_iconst (v := iI 0) hx hb dMo_increase_34 rfl ?_
    refine lv_istore (lv' := [(5, .int (iI 0)), (4, .int (iI nz)), (3, .int (iI 0)), (0, .ref mo), (1, .int (iI i)), (2, .int (iI j))]) hx hb dMo_increase_35 hl (by decide) rfl (fun ls hl => ?_)
    have L37 : ∀ (n : Nat) (D9 : Int → Int) (cy : Int) (n9 : Int) (d : Int) (H : Heap) (locs : List Loc) (ls : Array Slot), (0 ≤ d ∧ d ≤ n9 ∧ nz ≤ n9 ∧ (n9 = nz ∨ n9 = d) ∧ d ≤ nz + 1 ∧ (nz < d → cy = 0)) → (miJ mD i (ze (sh mD (340 * i)) (mZ i)) (ze (sh mD (340 * j)) (mZ j)) D9 cy d) → (nz + 2 - d).toNat < n → va_P (dC, dI) vwCl (wMo dA mo ft lf hg kk tx pn tk fm tO tl mI mT mS mC mL mB mF mU mX mP mK D9 mZ []) H → va_D A (wMo dA mo ft lf hg kk tx pn tk fm tO tl mI mT mS mC mL mB mF mU mX mP mK D9 mZ []) → va_S A s.heap H locs → lv_has ls 7 [(5, .int (iI d)), (4, .int (iI n9)), (3, .int (iI cy)), (0, .ref mo), (1, .int (iI i)), (2, .int (iI j))] → W p l e rmMo_increase s m [.ref mo, .int (iI i), .int (iI j)].toArray below meth c H locs 0 0 (MQ below (qMo_increase dC dI dA mo ft lf hg kk tx pn tk fm tO tl mI mT mS mC mL mB mF mU mX mP mK mD mZ i j N M A) [.ref mo, .int (iI i), .int (iI j)].toArray s 0 0 A) (F0 m 37 ls []) := by
      intro n
      induction n with
      | zero => intro D9 cy n9 d H locs ls hd hJ hn; omega
      | succ n ih =>
        intro D9 cy n9 d H locs ls hd hJ hn hP hD hS hl
        have hj1 := hJ.1
        have hj2 := hJ.2.1
        have hj3 := hJ.2.2.1
        have ih37 := ih
        refine lv_iload hx hb dMo_increase_37 (lv_at hl 0 rfl) ?_
        refine lv_iload hx hb dMo_increase_39 (lv_at hl 1 rfl) ?_
        refine iv_icmp_lt (tgt := 48) hx hb dMo_increase_41 (by decide) ⟨by omega, by omega⟩ ⟨by omega, by omega⟩ (fun hc41 => ?_) (fun hc41 => ?_)
        · have hdn : d ≤ nz := by omega
          refine lv_iload_n hx hb dMo_increase_48 rfl (lv_at hl 2 rfl) ?_
          refine lv_iload hx hb dMo_increase_49 (lv_at hl 0 rfl) ?_
          refine lv_aload_n hx hb dMo_increase_51 rfl (lv_at hl 3 rfl) ?_
          refine va_get (D := (dC, dI)) (ci := 7) (v := .ref (mo + 13)) (C := "MacroReckonerModel") (T := TMo) (N := 23) hx hb hts inMo hown hK hP 0 rfl rfl 22 (by decide) (hts _ wt4_80) (fun _ h9 => h9) rfl dMo_increase_52 ?_
          refine lv_iload_n hx hb dMo_increase_55 rfl (lv_at hl 4 rfl) ?_
          refine iv_iald hx hb hK hP 13 0 rfl rfl (by decide) dMo_increase_56 (by omega) (by omega) ?_
          refine iv_icmp_ge (tgt := 76) hx hb dMo_increase_57 (by decide) ⟨by omega, by omega⟩ ⟨by omega, by omega⟩ (fun hc57 => ?_) (fun hc57 => ?_)
          · refine lv_iconst (v := iI 0) hx hb dMo_increase_76 rfl ?_
            refine iv_iadd hx hb dMo_increase_77 ?_
            refine lv_iload hx hb dMo_increase_78 (lv_at hl 0 rfl) ?_
            refine lv_aload_n hx hb dMo_increase_80 rfl (lv_at hl 3 rfl) ?_
            refine va_get (D := (dC, dI)) (ci := 7) (v := .ref (mo + 13)) (C := "MacroReckonerModel") (T := TMo) (N := 23) hx hb hts inMo hown hK hP 0 rfl rfl 22 (by decide) (hts _ wt4_80) (fun _ h9 => h9) rfl dMo_increase_81 ?_
            refine lv_iload_n hx hb dMo_increase_84 rfl (lv_at hl 5 rfl) ?_
            refine iv_iald hx hb hK hP 13 0 rfl rfl (by decide) dMo_increase_85 (by omega) (by omega) ?_
            refine iv_icmp_ge (tgt := 105) hx hb dMo_increase_86 (by decide) ⟨by omega, by omega⟩ ⟨by omega, by omega⟩ (fun hc86 => ?_) (fun hc86 => ?_)
            · refine lv_iconst (v := iI 0) hx hb dMo_increase_105 rfl ?_
              refine iv_iadd hx hb dMo_increase_106 ?_
              refine lv_istore (lv' := [(6, .int (iI ((cy + 0) + 0))), (5, .int (iI d)), (4, .int (iI n9)), (3, .int (iI cy)), (0, .ref mo), (1, .int (iI i)), (2, .int (iI j))]) hx hb dMo_increase_107 hl (by decide) rfl (fun ls hl => ?_)
              obtain ⟨sm, e_sm⟩ : ∃ z : Int, z = (cy + 0) + 0 := ⟨_, rfl⟩
              have hl : lv_has ls 7 [(6, .int (iI sm)), (5, .int (iI d)), (4, .int (iI n9)), (3, .int (iI cy)), (0, .ref mo), (1, .int (iI i)), (2, .int (iI j))] := by rw [e_sm]; exact hl
              have hyy : ∃ x y, x = ze (sh mD (340 * i)) (mZ i) d ∧ y = ze (sh mD (340 * j)) (mZ j) d ∧ (0 ≤ x ∧ x ≤ 9) ∧ (0 ≤ y ∧ y ≤ 9) ∧ sm = cy + x + y ∧ ((x = 0 ∧ y = 0) ∨ d < mZ i ∨ d < mZ j) := by rw [e_sm]; first | exact ⟨D9 (340 * i + d), D9 (340 * j + d), by rw [ze_in hc57, hgi]; rfl, by rw [ze_in hc86, hgj]; rfl, by omega, by omega, rfl, by omega⟩ | exact ⟨D9 (340 * i + d), 0, by rw [ze_in hc57, hgi]; rfl, by rw [ze_out hc86], by omega, by omega, rfl, by omega⟩ | exact ⟨0, D9 (340 * j + d), by rw [ze_out hc57], by rw [ze_in hc86, hgj]; rfl, by omega, by omega, rfl, by omega⟩ | exact ⟨0, 0, by rw [ze_out hc57], by rw [ze_out hc86], by omega, by omega, rfl, by omega⟩
              obtain ⟨x9, y9, hx1, hy1, hx2, hy2, hs9, hxy⟩ := hyy
              refine lv_aload_n hx hb dMo_increase_109 rfl (lv_at hl 4 rfl) ?_
              refine va_get (D := (dC, dI)) (ci := 7) (v := .ref (mo + 12)) (C := "MacroReckonerModel") (T := TMo) (N := 23) hx hb hts inMo hown hK hP 0 rfl rfl 21 (by decide) (hts _ wt4_79) (fun _ h9 => h9) rfl dMo_increase_110 ?_
              refine lv_sipush (v := iI 340) hx hb dMo_increase_113 (by decide) ?_
              refine lv_iload_n hx hb dMo_increase_116 rfl (lv_at hl 5 rfl) ?_
              refine iv_imul hx hb dMo_increase_117 ?_
              refine lv_iload hx hb dMo_increase_118 (lv_at hl 1 rfl) ?_
              refine iv_iadd hx hb dMo_increase_120 ?_
              refine lv_iload hx hb dMo_increase_121 (lv_at hl 0 rfl) ?_
              refine lv_bipush (v := iI 10) hx hb dMo_increase_123 (by decide) ?_
              refine iv_irem hx hb dMo_increase_125 (by omega) ⟨by omega, by omega⟩ (by omega) ⟨by decide, by decide⟩ ?_
              refine iv_iast (v := sm % 10) hx hb hK hP hD hS 12 0 rfl rfl (by decide) dMo_increase_126 (by omega) (by omega) (fun H locs hP hD hS => ?_)
              have hP : va_P (dC, dI) vwCl (wMo dA mo ft lf hg kk tx pn tk fm tO tl mI mT mS mC mL mB mF mU mX mP mK (up D9 ((340 * i) + d) (sm % 10)) mZ []) H := hP
              have hD : va_D A (wMo dA mo ft lf hg kk tx pn tk fm tO tl mI mT mS mC mL mB mF mU mX mP mK (up D9 ((340 * i) + d) (sm % 10)) mZ []) := hD
              refine lv_iload hx hb dMo_increase_127 (lv_at hl 0 rfl) ?_
              refine lv_bipush (v := iI 10) hx hb dMo_increase_129 (by decide) ?_
              refine iv_idiv hx hb dMo_increase_131 (by omega) ⟨by omega, by omega⟩ (by omega) ⟨by decide, by decide⟩ ?_
              refine lv_istore_n (lv' := [(3, .int (iI (sm / 10))), (6, .int (iI sm)), (5, .int (iI d)), (4, .int (iI n9)), (0, .ref mo), (1, .int (iI i)), (2, .int (iI j))]) hx hb dMo_increase_132 rfl hl (by decide) rfl (fun ls hl => ?_)
              refine lv_iload hx hb dMo_increase_133 (lv_at hl 3 rfl) ?_
              refine lv_iload hx hb dMo_increase_135 (lv_at hl 2 rfl) ?_
              refine lv_iconst (v := iI 1) hx hb dMo_increase_137 rfl ?_
              refine iv_iadd hx hb dMo_increase_138 ?_
              refine iv_icmp_le (tgt := 147) hx hb dMo_increase_139 (by decide) ⟨by omega, by omega⟩ ⟨by omega, by omega⟩ (fun hc139 => ?_) (fun hc139 => ?_)
              · refine lv_iload hx hb dMo_increase_147 (lv_at hl 2 rfl) ?_
                refine lv_iconst (v := iI 1) hx hb dMo_increase_149 rfl ?_
                refine iv_iadd hx hb dMo_increase_150 ?_
                refine lv_istore (lv' := [(4, .int (iI (d + 1))), (3, .int (iI (sm / 10))), (6, .int (iI sm)), (5, .int (iI d)), (0, .ref mo), (1, .int (iI i)), (2, .int (iI j))]) hx hb dMo_increase_151 hl (by decide) rfl (fun ls hl => ?_)
                refine lv_iinc (k := 3) (lv' := [(5, .int (iI (d + 1))), (4, .int (iI (d + 1))), (3, .int (iI (sm / 10))), (6, .int (iI sm)), (0, .ref mo), (1, .int (iI i)), (2, .int (iI j))]) (v := iI (d + 1)) hx hb dMo_increase_153 hl rfl (iI_add _ _).symm (by decide) rfl (fun ls hl => ?_)
                refine lv_goto (tgt := 37) hx hb dMo_increase_156 (by decide) ?_
                exact ih37 (up D9 ((340 * i) + d) (sm % 10)) (sm / 10) (d + 1) (d + 1) H locs ls (by omega) (by exact mi_s hJ hx1 hy1 hx2 hy2 hs9) (by omega) hP hD hS (lv_sub hl [0, 1, 2, 4, 5, 6] rfl)
              · refine lv_iload hx hb dMo_increase_142 (lv_at hl 3 rfl) ?_
                refine lv_goto (tgt := 151) hx hb dMo_increase_144 (by decide) ?_
                refine lv_istore (lv' := [(4, .int (iI n9)), (3, .int (iI (sm / 10))), (6, .int (iI sm)), (5, .int (iI d)), (0, .ref mo), (1, .int (iI i)), (2, .int (iI j))]) hx hb dMo_increase_151 hl (by decide) rfl (fun ls hl => ?_)
                refine lv_iinc (k := 3) (lv' := [(5, .int (iI (d + 1))), (4, .int (iI n9)), (3, .int (iI (sm / 10))), (6, .int (iI sm)), (0, .ref mo), (1, .int (iI i)), (2, .int (iI j))]) (v := iI (d + 1)) hx hb dMo_increase_153 hl rfl (iI_add _ _).symm (by decide) rfl (fun ls hl => ?_)
                refine lv_goto (tgt := 37) hx hb dMo_increase_156 (by decide) ?_
                exact ih37 (up D9 ((340 * i) + d) (sm % 10)) (sm / 10) n9 (d + 1) H locs ls (by omega) (by exact mi_s hJ hx1 hy1 hx2 hy2 hs9) (by omega) hP hD hS (lv_sub hl [0, 1, 2, 4, 5, 6] rfl)
            · have hgj := hJ.2.2.2.2.1 (340 * j + d) (by omega)
              have hdj := hM2.1.2.1 d (by omega) (by omega)
              refine lv_aload_n hx hb dMo_increase_89 rfl (lv_at hl 3 rfl) ?_
              refine va_get (D := (dC, dI)) (ci := 7) (v := .ref (mo + 12)) (C := "MacroReckonerModel") (T := TMo) (N := 23) hx hb hts inMo hown hK hP 0 rfl rfl 21 (by decide) (hts _ wt4_79) (fun _ h9 => h9) rfl dMo_increase_90 ?_
              refine lv_sipush (v := iI 340) hx hb dMo_increase_93 (by decide) ?_
              refine lv_iload_n hx hb dMo_increase_96 rfl (lv_at hl 5 rfl) ?_
              refine iv_imul hx hb dMo_increase_97 ?_
              refine lv_iload hx hb dMo_increase_98 (lv_at hl 0 rfl) ?_
              refine iv_iadd hx hb dMo_increase_100 ?_
              refine iv_iald hx hb hK hP 12 0 rfl rfl (by decide) dMo_increase_101 (by omega) (by omega) ?_
              refine lv_goto (tgt := 106) hx hb dMo_increase_102 (by decide) ?_
              refine iv_iadd hx hb dMo_increase_106 ?_
              refine lv_istore (lv' := [(6, .int (iI ((cy + 0) + (D9 ((340 * j) + d))))), (5, .int (iI d)), (4, .int (iI n9)), (3, .int (iI cy)), (0, .ref mo), (1, .int (iI i)), (2, .int (iI j))]) hx hb dMo_increase_107 hl (by decide) rfl (fun ls hl => ?_)
              obtain ⟨sm, e_sm⟩ : ∃ z : Int, z = (cy + 0) + (D9 ((340 * j) + d)) := ⟨_, rfl⟩
              have hl : lv_has ls 7 [(6, .int (iI sm)), (5, .int (iI d)), (4, .int (iI n9)), (3, .int (iI cy)), (0, .ref mo), (1, .int (iI i)), (2, .int (iI j))] := by rw [e_sm]; exact hl
              have hyy : ∃ x y, x = ze (sh mD (340 * i)) (mZ i) d ∧ y = ze (sh mD (340 * j)) (mZ j) d ∧ (0 ≤ x ∧ x ≤ 9) ∧ (0 ≤ y ∧ y ≤ 9) ∧ sm = cy + x + y ∧ ((x = 0 ∧ y = 0) ∨ d < mZ i ∨ d < mZ j) := by rw [e_sm]; first | exact ⟨D9 (340 * i + d), D9 (340 * j + d), by rw [ze_in hc57, hgi]; rfl, by rw [ze_in hc86, hgj]; rfl, by omega, by omega, rfl, by omega⟩ | exact ⟨D9 (340 * i + d), 0, by rw [ze_in hc57, hgi]; rfl, by rw [ze_out hc86], by omega, by omega, rfl, by omega⟩ | exact ⟨0, D9 (340 * j + d), by rw [ze_out hc57], by rw [ze_in hc86, hgj]; rfl, by omega, by omega, rfl, by omega⟩ | exact ⟨0, 0, by rw [ze_out hc57], by rw [ze_out hc86], by omega, by omega, rfl, by omega⟩
              obtain ⟨x9, y9, hx1, hy1, hx2, hy2, hs9, hxy⟩ := hyy
              refine lv_aload_n hx hb dMo_increase_109 rfl (lv_at hl 4 rfl) ?_
              refine va_get (D := (dC, dI)) (ci := 7) (v := .ref (mo + 12)) (C := "MacroReckonerModel") (T := TMo) (N := 23) hx hb hts inMo hown hK hP 0 rfl rfl 21 (by decide) (hts _ wt4_79) (fun _ h9 => h9) rfl dMo_increase_110 ?_
              refine lv_sipush (v := iI 340) hx hb dMo_increase_113 (by decide) ?_
              refine lv_iload_n hx hb dMo_increase_116 rfl (lv_at hl 5 rfl) ?_
              refine iv_imul hx hb dMo_increase_117 ?_
              refine lv_iload hx hb dMo_increase_118 (lv_at hl 1 rfl) ?_
              refine iv_iadd hx hb dMo_increase_120 ?_
              refine lv_iload hx hb dMo_increase_121 (lv_at hl 0 rfl) ?_
              refine lv_bipush (v := iI 10) hx hb dMo_increase_123 (by decide) ?_
              refine iv_irem hx hb dMo_increase_125 (by omega) ⟨by omega, by omega⟩ (by omega) ⟨by decide, by decide⟩ ?_
              refine iv_iast (v := sm % 10) hx hb hK hP hD hS 12 0 rfl rfl (by decide) dMo_increase_126 (by omega) (by omega) (fun H locs hP hD hS => ?_)
              have hP : va_P (dC, dI) vwCl (wMo dA mo ft lf hg kk tx pn tk fm tO tl mI mT mS mC mL mB mF mU mX mP mK (up D9 ((340 * i) + d) (sm % 10)) mZ []) H := hP
              have hD : va_D A (wMo dA mo ft lf hg kk tx pn tk fm tO tl mI mT mS mC mL mB mF mU mX mP mK (up D9 ((340 * i) + d) (sm % 10)) mZ []) := hD
              refine lv_iload hx hb dMo_increase_127 (lv_at hl 0 rfl) ?_
              refine lv_bipush (v := iI 10) hx hb dMo_increase_129 (by decide) ?_
              refine iv_idiv hx hb dMo_increase_131 (by omega) ⟨by omega, by omega⟩ (by omega) ⟨by decide, by decide⟩ ?_
              refine lv_istore_n (lv' := [(3, .int (iI (sm / 10))), (6, .int (iI sm)), (5, .int (iI d)), (4, .int (iI n9)), (0, .ref mo), (1, .int (iI i)), (2, .int (iI j))]) hx hb dMo_increase_132 rfl hl (by decide) rfl (fun ls hl => ?_)
              refine lv_iload hx hb dMo_increase_133 (lv_at hl 3 rfl) ?_
              refine lv_iload hx hb dMo_increase_135 (lv_at hl 2 rfl) ?_
              refine lv_iconst (v := iI 1) hx hb dMo_increase_137 rfl ?_
              refine iv_iadd hx hb dMo_increase_138 ?_
              refine iv_icmp_le (tgt := 147) hx hb dMo_increase_139 (by decide) ⟨by omega, by omega⟩ ⟨by omega, by omega⟩ (fun hc139 => ?_) (fun hc139 => ?_)
              · refine lv_iload hx hb dMo_increase_147 (lv_at hl 2 rfl) ?_
                refine lv_iconst (v := iI 1) hx hb dMo_increase_149 rfl ?_
                refine iv_iadd hx hb dMo_increase_150 ?_
                refine lv_istore (lv' := [(4, .int (iI (d + 1))), (3, .int (iI (sm / 10))), (6, .int (iI sm)), (5, .int (iI d)), (0, .ref mo), (1, .int (iI i)), (2, .int (iI j))]) hx hb dMo_increase_151 hl (by decide) rfl (fun ls hl => ?_)
                refine lv_iinc (k := 3) (lv' := [(5, .int (iI (d + 1))), (4, .int (iI (d + 1))), (3, .int (iI (sm / 10))), (6, .int (iI sm)), (0, .ref mo), (1, .int (iI i)), (2, .int (iI j))]) (v := iI (d + 1)) hx hb dMo_increase_153 hl rfl (iI_add _ _).symm (by decide) rfl (fun ls hl => ?_)
                refine lv_goto (tgt := 37) hx hb dMo_increase_156 (by decide) ?_
                exact ih37 (up D9 ((340 * i) + d) (sm % 10)) (sm / 10) (d + 1) (d + 1) H locs ls (by omega) (by exact mi_s hJ hx1 hy1 hx2 hy2 hs9) (by omega) hP hD hS (lv_sub hl [0, 1, 2, 4, 5, 6] rfl)
              · refine lv_iload hx hb dMo_increase_142 (lv_at hl 3 rfl) ?_
                refine lv_goto (tgt := 151) hx hb dMo_increase_144 (by decide) ?_
                refine lv_istore (lv' := [(4, .int (iI n9)), (3, .int (iI (sm / 10))), (6, .int (iI sm)), (5, .int (iI d)), (0, .ref mo), (1, .int (iI i)), (2, .int (iI j))]) hx hb dMo_increase_151 hl (by decide) rfl (fun ls hl => ?_)
                refine lv_iinc (k := 3) (lv' := [(5, .int (iI (d + 1))), (4, .int (iI n9)), (3, .int (iI (sm / 10))), (6, .int (iI sm)), (0, .ref mo), (1, .int (iI i)), (2, .int (iI j))]) (v := iI (d + 1)) hx hb dMo_increase_153 hl rfl (iI_add _ _).symm (by decide) rfl (fun ls hl => ?_)
                refine lv_goto (tgt := 37) hx hb dMo_increase_156 (by decide) ?_
                exact ih37 (up D9 ((340 * i) + d) (sm % 10)) (sm / 10) n9 (d + 1) H locs ls (by omega) (by exact mi_s hJ hx1 hy1 hx2 hy2 hs9) (by omega) hP hD hS (lv_sub hl [0, 1, 2, 4, 5, 6] rfl)
          · have hgi := hJ.2.2.2.2.1 (340 * i + d) (by omega)
            have hdi := hM.1.2.1 d (by omega) (by omega)
            refine lv_aload_n hx hb dMo_increase_60 rfl (lv_at hl 3 rfl) ?_
            refine va_get (D := (dC, dI)) (ci := 7) (v := .ref (mo + 12)) (C := "MacroReckonerModel") (T := TMo) (N := 23) hx hb hts inMo hown hK hP 0 rfl rfl 21 (by decide) (hts _ wt4_79) (fun _ h9 => h9) rfl dMo_increase_61 ?_
            refine lv_sipush (v := iI 340) hx hb dMo_increase_64 (by decide) ?_
            refine lv_iload_n hx hb dMo_increase_67 rfl (lv_at hl 4 rfl) ?_
            refine iv_imul hx hb dMo_increase_68 ?_
            refine lv_iload hx hb dMo_increase_69 (lv_at hl 0 rfl) ?_
            refine iv_iadd hx hb dMo_increase_71 ?_
            refine iv_iald hx hb hK hP 12 0 rfl rfl (by decide) dMo_increase_72 (by omega) (by omega) ?_
            refine lv_goto (tgt := 77) hx hb dMo_increase_73 (by decide) ?_
            refine iv_iadd hx hb dMo_increase_77 ?_
            refine lv_iload hx hb dMo_increase_78 (lv_at hl 0 rfl) ?_
            refine lv_aload_n hx hb dMo_increase_80 rfl (lv_at hl 3 rfl) ?_
            refine va_get (D := (dC, dI)) (ci := 7) (v := .ref (mo + 13)) (C := "MacroReckonerModel") (T := TMo) (N := 23) hx hb hts inMo hown hK hP 0 rfl rfl 22 (by decide) (hts _ wt4_80) (fun _ h9 => h9) rfl dMo_increase_81 ?_
            refine lv_iload_n hx hb dMo_increase_84 rfl (lv_at hl 5 rfl) ?_
            refine iv_iald hx hb hK hP 13 0 rfl rfl (by decide) dMo_increase_85 (by omega) (by omega) ?_
            refine iv_icmp_ge (tgt := 105) hx hb dMo_increase_86 (by decide) ⟨by omega, by omega⟩ ⟨by omega, by omega⟩ (fun hc86 => ?_) (fun hc86 => ?_)
            · refine lv_iconst (v := iI 0) hx hb dMo_increase_105 rfl ?_
              refine iv_iadd hx hb dMo_increase_106 ?_
              refine lv_istore (lv' := [(6, .int (iI ((cy + (D9 ((340 * i) + d))) + 0))), (5, .int (iI d)), (4, .int (iI n9)), (3, .int (iI cy)), (0, .ref mo), (1, .int (iI i)), (2, .int (iI j))]) hx hb dMo_increase_107 hl (by decide) rfl (fun ls hl => ?_)
              obtain ⟨sm, e_sm⟩ : ∃ z : Int, z = (cy + (D9 ((340 * i) + d))) + 0 := ⟨_, rfl⟩
              have hl : lv_has ls 7 [(6, .int (iI sm)), (5, .int (iI d)), (4, .int (iI n9)), (3, .int (iI cy)), (0, .ref mo), (1, .int (iI i)), (2, .int (iI j))] := by rw [e_sm]; exact hl
              have hyy : ∃ x y, x = ze (sh mD (340 * i)) (mZ i) d ∧ y = ze (sh mD (340 * j)) (mZ j) d ∧ (0 ≤ x ∧ x ≤ 9) ∧ (0 ≤ y ∧ y ≤ 9) ∧ sm = cy + x + y ∧ ((x = 0 ∧ y = 0) ∨ d < mZ i ∨ d < mZ j) := by rw [e_sm]; first | exact ⟨D9 (340 * i + d), D9 (340 * j + d), by rw [ze_in hc57, hgi]; rfl, by rw [ze_in hc86, hgj]; rfl, by omega, by omega, rfl, by omega⟩ | exact ⟨D9 (340 * i + d), 0, by rw [ze_in hc57, hgi]; rfl, by rw [ze_out hc86], by omega, by omega, rfl, by omega⟩ | exact ⟨0, D9 (340 * j + d), by rw [ze_out hc57], by rw [ze_in hc86, hgj]; rfl, by omega, by omega, rfl, by omega⟩ | exact ⟨0, 0, by rw [ze_out hc57], by rw [ze_out hc86], by omega, by omega, rfl, by omega⟩
              obtain ⟨x9, y9, hx1, hy1, hx2, hy2, hs9, hxy⟩ := hyy
              refine lv_aload_n hx hb dMo_increase_109 rfl (lv_at hl 4 rfl) ?_
              refine va_get (D := (dC, dI)) (ci := 7) (v := .ref (mo + 12)) (C := "MacroReckonerModel") (T := TMo) (N := 23) hx hb hts inMo hown hK hP 0 rfl rfl 21 (by decide) (hts _ wt4_79) (fun _ h9 => h9) rfl dMo_increase_110 ?_
              refine lv_sipush (v := iI 340) hx hb dMo_increase_113 (by decide) ?_
              refine lv_iload_n hx hb dMo_increase_116 rfl (lv_at hl 5 rfl) ?_
              refine iv_imul hx hb dMo_increase_117 ?_
              refine lv_iload hx hb dMo_increase_118 (lv_at hl 1 rfl) ?_
              refine iv_iadd hx hb dMo_increase_120 ?_
              refine lv_iload hx hb dMo_increase_121 (lv_at hl 0 rfl) ?_
              refine lv_bipush (v := iI 10) hx hb dMo_increase_123 (by decide) ?_
              refine iv_irem hx hb dMo_increase_125 (by omega) ⟨by omega, by omega⟩ (by omega) ⟨by decide, by decide⟩ ?_
              refine iv_iast (v := sm % 10) hx hb hK hP hD hS 12 0 rfl rfl (by decide) dMo_increase_126 (by omega) (by omega) (fun H locs hP hD hS => ?_)
              have hP : va_P (dC, dI) vwCl (wMo dA mo ft lf hg kk tx pn tk fm tO tl mI mT mS mC mL mB mF mU mX mP mK (up D9 ((340 * i) + d) (sm % 10)) mZ []) H := hP
              have hD : va_D A (wMo dA mo ft lf hg kk tx pn tk fm tO tl mI mT mS mC mL mB mF mU mX mP mK (up D9 ((340 * i) + d) (sm % 10)) mZ []) := hD
              refine lv_iload hx hb dMo_increase_127 (lv_at hl 0 rfl) ?_
              refine lv_bipush (v := iI 10) hx hb dMo_increase_129 (by decide) ?_
              refine iv_idiv hx hb dMo_increase_131 (by omega) ⟨by omega, by omega⟩ (by omega) ⟨by decide, by decide⟩ ?_
              refine lv_istore_n (lv' := [(3, .int (iI (sm / 10))), (6, .int (iI sm)), (5, .int (iI d)), (4, .int (iI n9)), (0, .ref mo), (1, .int (iI i)), (2, .int (iI j))]) hx hb dMo_increase_132 rfl hl (by decide) rfl (fun ls hl => ?_)
              refine lv_iload hx hb dMo_increase_133 (lv_at hl 3 rfl) ?_
              refine lv_iload hx hb dMo_increase_135 (lv_at hl 2 rfl) ?_
              refine lv_iconst (v := iI 1) hx hb dMo_increase_137 rfl ?_
              refine iv_iadd hx hb dMo_increase_138 ?_
              refine iv_icmp_le (tgt := 147) hx hb dMo_increase_139 (by decide) ⟨by omega, by omega⟩ ⟨by omega, by omega⟩ (fun hc139 => ?_) (fun hc139 => ?_)
              · refine lv_iload hx hb dMo_increase_147 (lv_at hl 2 rfl) ?_
                refine lv_iconst (v := iI 1) hx hb dMo_increase_149 rfl ?_
                refine iv_iadd hx hb dMo_increase_150 ?_
                refine lv_istore (lv' := [(4, .int (iI (d + 1))), (3, .int (iI (sm / 10))), (6, .int (iI sm)), (5, .int (iI d)), (0, .ref mo), (1, .int (iI i)), (2, .int (iI j))]) hx hb dMo_increase_151 hl (by decide) rfl (fun ls hl => ?_)
                refine lv_iinc (k := 3) (lv' := [(5, .int (iI (d + 1))), (4, .int (iI (d + 1))), (3, .int (iI (sm / 10))), (6, .int (iI sm)), (0, .ref mo), (1, .int (iI i)), (2, .int (iI j))]) (v := iI (d + 1)) hx hb dMo_increase_153 hl rfl (iI_add _ _).symm (by decide) rfl (fun ls hl => ?_)
                refine lv_goto (tgt := 37) hx hb dMo_increase_156 (by decide) ?_
                exact ih37 (up D9 ((340 * i) + d) (sm % 10)) (sm / 10) (d + 1) (d + 1) H locs ls (by omega) (by exact mi_s hJ hx1 hy1 hx2 hy2 hs9) (by omega) hP hD hS (lv_sub hl [0, 1, 2, 4, 5, 6] rfl)
              · refine lv_iload hx hb dMo_increase_142 (lv_at hl 3 rfl) ?_
                refine lv_goto (tgt := 151) hx hb dMo_increase_144 (by decide) ?_
                refine lv_istore (lv' := [(4, .int (iI n9)), (3, .int (iI (sm / 10))), (6, .int (iI sm)), (5, .int (iI d)), (0, .ref mo), (1, .int (iI i)), (2, .int (iI j))]) hx hb dMo_increase_151 hl (by decide) rfl (fun ls hl => ?_)
                refine lv_iinc (k := 3) (lv' := [(5, .int (iI (d + 1))), (4, .int (iI n9)), (3, .int (iI (sm / 10))), (6, .int (iI sm)), (0, .ref mo), (1, .int (iI i)), (2, .int (iI j))]) (v := iI (d + 1)) hx hb dMo_increase_153 hl rfl (iI_add _ _).symm (by decide) rfl (fun ls hl => ?_)
                refine lv_goto (tgt := 37) hx hb dMo_increase_156 (by decide) ?_
                exact ih37 (up D9 ((340 * i) + d) (sm % 10)) (sm / 10) n9 (d + 1) H locs ls (by omega) (by exact mi_s hJ hx1 hy1 hx2 hy2 hs9) (by omega) hP hD hS (lv_sub hl [0, 1, 2, 4, 5, 6] rfl)
            · have hgj := hJ.2.2.2.2.1 (340 * j + d) (by omega)
              have hdj := hM2.1.2.1 d (by omega) (by omega)
              refine lv_aload_n hx hb dMo_increase_89 rfl (lv_at hl 3 rfl) ?_
              refine va_get (D := (dC, dI)) (ci := 7) (v := .ref (mo + 12)) (C := "MacroReckonerModel") (T := TMo) (N := 23) hx hb hts inMo hown hK hP 0 rfl rfl 21 (by decide) (hts _ wt4_79) (fun _ h9 => h9) rfl dMo_increase_90 ?_
              refine lv_sipush (v := iI 340) hx hb dMo_increase_93 (by decide) ?_
              refine lv_iload_n hx hb dMo_increase_96 rfl (lv_at hl 5 rfl) ?_
              refine iv_imul hx hb dMo_increase_97 ?_
              refine lv_iload hx hb dMo_increase_98 (lv_at hl 0 rfl) ?_
              refine iv_iadd hx hb dMo_increase_100 ?_
              refine iv_iald hx hb hK hP 12 0 rfl rfl (by decide) dMo_increase_101 (by omega) (by omega) ?_
              refine lv_goto (tgt := 106) hx hb dMo_increase_102 (by decide) ?_
              refine iv_iadd hx hb dMo_increase_106 ?_
              refine lv_istore (lv' := [(6, .int (iI ((cy + (D9 ((340 * i) + d))) + (D9 ((340 * j) + d))))), (5, .int (iI d)), (4, .int (iI n9)), (3, .int (iI cy)), (0, .ref mo), (1, .int (iI i)), (2, .int (iI j))]) hx hb dMo_increase_107 hl (by decide) rfl (fun ls hl => ?_)
              obtain ⟨sm, e_sm⟩ : ∃ z : Int, z = (cy + (D9 ((340 * i) + d))) + (D9 ((340 * j) + d)) := ⟨_, rfl⟩
              have hl : lv_has ls 7 [(6, .int (iI sm)), (5, .int (iI d)), (4, .int (iI n9)), (3, .int (iI cy)), (0, .ref mo), (1, .int (iI i)), (2, .int (iI j))] := by rw [e_sm]; exact hl
              have hyy : ∃ x y, x = ze (sh mD (340 * i)) (mZ i) d ∧ y = ze (sh mD (340 * j)) (mZ j) d ∧ (0 ≤ x ∧ x ≤ 9) ∧ (0 ≤ y ∧ y ≤ 9) ∧ sm = cy + x + y ∧ ((x = 0 ∧ y = 0) ∨ d < mZ i ∨ d < mZ j) := by rw [e_sm]; first | exact ⟨D9 (340 * i + d), D9 (340 * j + d), by rw [ze_in hc57, hgi]; rfl, by rw [ze_in hc86, hgj]; rfl, by omega, by omega, rfl, by omega⟩ | exact ⟨D9 (340 * i + d), 0, by rw [ze_in hc57, hgi]; rfl, by rw [ze_out hc86], by omega, by omega, rfl, by omega⟩ | exact ⟨0, D9 (340 * j + d), by rw [ze_out hc57], by rw [ze_in hc86, hgj]; rfl, by omega, by omega, rfl, by omega⟩ | exact ⟨0, 0, by rw [ze_out hc57], by rw [ze_out hc86], by omega, by omega, rfl, by omega⟩
              obtain ⟨x9, y9, hx1, hy1, hx2, hy2, hs9, hxy⟩ := hyy
              refine lv_aload_n hx hb dMo_increase_109 rfl (lv_at hl 4 rfl) ?_
              refine va_get (D := (dC, dI)) (ci := 7) (v := .ref (mo + 12)) (C := "MacroReckonerModel") (T := TMo) (N := 23) hx hb hts inMo hown hK hP 0 rfl rfl 21 (by decide) (hts _ wt4_79) (fun _ h9 => h9) rfl dMo_increase_110 ?_
              refine lv_sipush (v := iI 340) hx hb dMo_increase_113 (by decide) ?_
              refine lv_iload_n hx hb dMo_increase_116 rfl (lv_at hl 5 rfl) ?_
              refine iv_imul hx hb dMo_increase_117 ?_
              refine lv_iload hx hb dMo_increase_118 (lv_at hl 1 rfl) ?_
              refine iv_iadd hx hb dMo_increase_120 ?_
              refine lv_iload hx hb dMo_increase_121 (lv_at hl 0 rfl) ?_
              refine lv_bipush (v := iI 10) hx hb dMo_increase_123 (by decide) ?_
              refine iv_irem hx hb dMo_increase_125 (by omega) ⟨by omega, by omega⟩ (by omega) ⟨by decide, by decide⟩ ?_
              refine iv_iast (v := sm % 10) hx hb hK hP hD hS 12 0 rfl rfl (by decide) dMo_increase_126 (by omega) (by omega) (fun H locs hP hD hS => ?_)
              have hP : va_P (dC, dI) vwCl (wMo dA mo ft lf hg kk tx pn tk fm tO tl mI mT mS mC mL mB mF mU mX mP mK (up D9 ((340 * i) + d) (sm % 10)) mZ []) H := hP
              have hD : va_D A (wMo dA mo ft lf hg kk tx pn tk fm tO tl mI mT mS mC mL mB mF mU mX mP mK (up D9 ((340 * i) + d) (sm % 10)) mZ []) := hD
              refine lv_iload hx hb dMo_increase_127 (lv_at hl 0 rfl) ?_
              refine lv_bipush (v := iI 10) hx hb dMo_increase_129 (by decide) ?_
              refine iv_idiv hx hb dMo_increase_131 (by omega) ⟨by omega, by omega⟩ (by omega) ⟨by decide, by decide⟩ ?_
              refine lv_istore_n (lv' := [(3, .int (iI (sm / 10))), (6, .int (iI sm)), (5, .int (iI d)), (4, .int (iI n9)), (0, .ref mo), (1, .int (iI i)), (2, .int (iI j))]) hx hb dMo_increase_132 rfl hl (by decide) rfl (fun ls hl => ?_)
              refine lv_iload hx hb dMo_increase_133 (lv_at hl 3 rfl) ?_
              refine lv_iload hx hb dMo_increase_135 (lv_at hl 2 rfl) ?_
              refine lv_iconst (v := iI 1) hx hb dMo_increase_137 rfl ?_
              refine iv_iadd hx hb dMo_increase_138 ?_
              refine iv_icmp_le (tgt := 147) hx hb dMo_increase_139 (by decide) ⟨by omega, by omega⟩ ⟨by omega, by omega⟩ (fun hc139 => ?_) (fun hc139 => ?_)
              · refine lv_iload hx hb dMo_increase_147 (lv_at hl 2 rfl) ?_
                refine lv_iconst (v := iI 1) hx hb dMo_increase_149 rfl ?_
                refine iv_iadd hx hb dMo_increase_150 ?_
                refine lv_istore (lv' := [(4, .int (iI (d + 1))), (3, .int (iI (sm / 10))), (6, .int (iI sm)), (5, .int (iI d)), (0, .ref mo), (1, .int (iI i)), (2, .int (iI j))]) hx hb dMo_increase_151 hl (by decide) rfl (fun ls hl => ?_)
                refine lv_iinc (k := 3) (lv' := [(5, .int (iI (d + 1))), (4, .int (iI (d + 1))), (3, .int (iI (sm / 10))), (6, .int (iI sm)), (0, .ref mo), (1, .int (iI i)), (2, .int (iI j))]) (v := iI (d + 1)) hx hb dMo_increase_153 hl rfl (iI_add _ _).symm (by decide) rfl (fun ls hl => ?_)
                refine lv_goto (tgt := 37) hx hb dMo_increase_156 (by decide) ?_
                exact ih37 (up D9 ((340 * i) + d) (sm % 10)) (sm / 10) (d + 1) (d + 1) H locs ls (by omega) (by exact mi_s hJ hx1 hy1 hx2 hy2 hs9) (by omega) hP hD hS (lv_sub hl [0, 1, 2, 4, 5, 6] rfl)
              · refine lv_iload hx hb dMo_increase_142 (lv_at hl 3 rfl) ?_
                refine lv_goto (tgt := 151) hx hb dMo_increase_144 (by decide) ?_
                refine lv_istore (lv' := [(4, .int (iI n9)), (3, .int (iI (sm / 10))), (6, .int (iI sm)), (5, .int (iI d)), (0, .ref mo), (1, .int (iI i)), (2, .int (iI j))]) hx hb dMo_increase_151 hl (by decide) rfl (fun ls hl => ?_)
                refine lv_iinc (k := 3) (lv' := [(5, .int (iI (d + 1))), (4, .int (iI n9)), (3, .int (iI (sm / 10))), (6, .int (iI sm)), (0, .ref mo), (1, .int (iI i)), (2, .int (iI j))]) (v := iI (d + 1)) hx hb dMo_increase_153 hl rfl (iI_add _ _).symm (by decide) rfl (fun ls hl => ?_)
                refine lv_goto (tgt := 37) hx hb dMo_increase_156 (by decide) ?_
                exact ih37 (up D9 ((340 * i) + d) (sm % 10)) (sm / 10) n9 (d + 1) H locs ls (by omega) (by exact mi_s hJ hx1 hy1 hx2 hy2 hs9) (by omega) hP hD hS (lv_sub hl [0, 1, 2, 4, 5, 6] rfl)
        · refine lv_iload_n hx hb dMo_increase_44 rfl (lv_at hl 2 rfl) ?_
          refine iv_if_le (tgt := 159) hx hb dMo_increase_45 (by decide) ⟨by omega, by omega⟩ (fun hc45 => ?_) (fun hc45 => ?_)
          · refine lv_aload_n hx hb dMo_increase_159 rfl (lv_at hl 3 rfl) ?_
            refine va_get (D := (dC, dI)) (ci := 7) (v := .ref (mo + 13)) (C := "MacroReckonerModel") (T := TMo) (N := 23) hx hb hts inMo hown hK hP 0 rfl rfl 22 (by decide) (hts _ wt4_80) (fun _ h9 => h9) rfl dMo_increase_160 ?_
            refine lv_iload_n hx hb dMo_increase_163 rfl (lv_at hl 4 rfl) ?_
            refine lv_iload hx hb dMo_increase_164 (lv_at hl 1 rfl) ?_
            refine iv_iast (v := n9) hx hb hK hP hD hS 13 0 rfl rfl (by decide) dMo_increase_166 (by omega) (by omega) (fun H locs hP hD hS => ?_)
            have hP : va_P (dC, dI) vwCl (wMo dA mo ft lf hg kk tx pn tk fm tO tl mI mT mS mC mL mB mF mU mX mP mK D9 (up mZ i n9) []) H := hP
            have hD : va_D A (wMo dA mo ft lf hg kk tx pn tk fm tO tl mI mT mS mC mL mB mF mU mX mP mK D9 (up mZ i n9) []) := hD
            refine lv_aload_n hx hb dMo_increase_167 rfl (lv_at hl 3 rfl) ?_
            refine lv_iload_n hx hb dMo_increase_168 rfl (lv_at hl 4 rfl) ?_
            refine cv_v (va_runV (C := "MacroReckonerModel") (As := [.int (iI i)]) (rest := []) ⟨hx, hb, hml, hown, hts⟩ (cMo_trim l dC dI dA mo ft lf hg kk tx pn tk fm tO tl mI mT mS mC mL mB mF mU mX mP mK D9 ((up mZ i n9)) i (N + M) (by omega) (by have e : n9 = d := (by omega); rw [e]; exact mi_e hM hM2 hJ (by omega) (by omega) (by omega) (by omega)) H.size) (cwV 1 hts (gdV wt4_191 wt4_193 ws4_2 wt1_8 wt4_194) rfl rfl rfl ⟨rfl, by decide, by decide, by decide +kernel⟩ ⟨by decide, by decide⟩) (preV (q := ("MacroReckonerModel", TMo, 23)) hK hP hD hS hA XN_ok trivial [0, 1, 2, 3, 4, 5, 6, 7, 8, 9, 10, 11, 12, 13] rfl rfl 0 rfl rfl) rfl rfl hl.1 rfl (lv_room (Nat.le_of_ble_eq_true rfl)) dMo_increase_169 ⟨Nat.zero_le _, Nat.zero_le _⟩) hP hD hS hA [0, 1, 2, 3, 4, 5, 6, 7, 8, 9, 10, 11, 12, 13] [] rfl (fun v_ => wMo dA mo ft lf hg kk tx pn tk fm tO tl mI mT mS mC mL mB mF mU mX mP mK D9 v_ []) (fun _ => rfl) ([] : va_W) rfl (fun _ => rfl) [mo, mo + 1, mo + 2, mo + 3, mo + 4, mo + 5, mo + 6, mo + 7, mo + 8, mo + 9, mo + 10, mo + 11, mo + 12, mo + 13] rfl (fun _ => rfl) (fun _ => rfl) (fun u_ H locs hq169 hP hD hS => ?_)
            obtain ⟨Z7, rfl⟩ : ∃ z, z = u_ := ⟨_, rfl⟩
            have hP : va_P (dC, dI) vwCl (wMo dA mo ft lf hg kk tx pn tk fm tO tl mI mT mS mC mL mB mF mU mX mP mK D9 Z7 []) H := hP
            have hD : va_D A (wMo dA mo ft lf hg kk tx pn tk fm tO tl mI mT mS mC mL mB mF mU mX mP mK D9 Z7 []) := hD
            have hq169 : MR D9 Z7 i (N + M) ∧ ∀ j, j ≠ i → Z7 j = ((up mZ i n9)) j := hq169
            exact rt_v hx hb hr hlocks hK hS dMo_increase_172 (D9, Z7) hP hD (show MR D9 Z7 i (N + M) ∧ others mD mZ D9 Z7 i from by exact ⟨hq169.1, fun p x => hJ.2.2.2.2.1 p (by omega), fun t x => by rw [hq169.2 t x, up_n x]⟩)
          · have hdn : d ≤ nz := by omega
            refine lv_iload_n hx hb dMo_increase_48 rfl (lv_at hl 2 rfl) ?_
            refine lv_iload hx hb dMo_increase_49 (lv_at hl 0 rfl) ?_
            refine lv_aload_n hx hb dMo_increase_51 rfl (lv_at hl 3 rfl) ?_
            refine va_get (D := (dC, dI)) (ci := 7) (v := .ref (mo + 13)) (C := "MacroReckonerModel") (T := TMo) (N := 23) hx hb hts inMo hown hK hP 0 rfl rfl 22 (by decide) (hts _ wt4_80) (fun _ h9 => h9) rfl dMo_increase_52 ?_
            refine lv_iload_n hx hb dMo_increase_55 rfl (lv_at hl 4 rfl) ?_
            refine iv_iald hx hb hK hP 13 0 rfl rfl (by decide) dMo_increase_56 (by omega) (by omega) ?_
            refine iv_icmp_ge (tgt := 76) hx hb dMo_increase_57 (by decide) ⟨by omega, by omega⟩ ⟨by omega, by omega⟩ (fun hc57 => ?_) (fun hc57 => ?_)
            · refine lv_iconst (v := iI 0) hx hb dMo_increase_76 rfl ?_
              refine iv_iadd hx hb dMo_increase_77 ?_
              refine lv_iload hx hb dMo_increase_78 (lv_at hl 0 rfl) ?_
              refine lv_aload_n hx hb dMo_increase_80 rfl (lv_at hl 3 rfl) ?_
              refine va_get (D := (dC, dI)) (ci := 7) (v := .ref (mo + 13)) (C := "MacroReckonerModel") (T := TMo) (N := 23) hx hb hts inMo hown hK hP 0 rfl rfl 22 (by decide) (hts _ wt4_80) (fun _ h9 => h9) rfl dMo_increase_81 ?_
              refine lv_iload_n hx hb dMo_increase_84 rfl (lv_at hl 5 rfl) ?_
              refine iv_iald hx hb hK hP 13 0 rfl rfl (by decide) dMo_increase_85 (by omega) (by omega) ?_
              refine iv_icmp_ge (tgt := 105) hx hb dMo_increase_86 (by decide) ⟨by omega, by omega⟩ ⟨by omega, by omega⟩ (fun hc86 => ?_) (fun hc86 => ?_)
              · refine lv_iconst (v := iI 0) hx hb dMo_increase_105 rfl ?_
                refine iv_iadd hx hb dMo_increase_106 ?_
                refine lv_istore (lv' := [(6, .int (iI ((cy + 0) + 0))), (5, .int (iI d)), (4, .int (iI n9)), (3, .int (iI cy)), (0, .ref mo), (1, .int (iI i)), (2, .int (iI j))]) hx hb dMo_increase_107 hl (by decide) rfl (fun ls hl => ?_)
                obtain ⟨sm, e_sm⟩ : ∃ z : Int, z = (cy + 0) + 0 := ⟨_, rfl⟩
                have hl : lv_has ls 7 [(6, .int (iI sm)), (5, .int (iI d)), (4, .int (iI n9)), (3, .int (iI cy)), (0, .ref mo), (1, .int (iI i)), (2, .int (iI j))] := by rw [e_sm]; exact hl
                have hyy : ∃ x y, x = ze (sh mD (340 * i)) (mZ i) d ∧ y = ze (sh mD (340 * j)) (mZ j) d ∧ (0 ≤ x ∧ x ≤ 9) ∧ (0 ≤ y ∧ y ≤ 9) ∧ sm = cy + x + y ∧ ((x = 0 ∧ y = 0) ∨ d < mZ i ∨ d < mZ j) := by rw [e_sm]; first | exact ⟨D9 (340 * i + d), D9 (340 * j + d), by rw [ze_in hc57, hgi]; rfl, by rw [ze_in hc86, hgj]; rfl, by omega, by omega, rfl, by omega⟩ | exact ⟨D9 (340 * i + d), 0, by rw [ze_in hc57, hgi]; rfl, by rw [ze_out hc86], by omega, by omega, rfl, by omega⟩ | exact ⟨0, D9 (340 * j + d), by rw [ze_out hc57], by rw [ze_in hc86, hgj]; rfl, by omega, by omega, rfl, by omega⟩ | exact ⟨0, 0, by rw [ze_out hc57], by rw [ze_out hc86], by omega, by omega, rfl, by omega⟩
                obtain ⟨x9, y9, hx1, hy1, hx2, hy2, hs9, hxy⟩ := hyy
                refine lv_aload_n hx hb dMo_increase_109 rfl (lv_at hl 4 rfl) ?_
                refine va_get (D := (dC, dI)) (ci := 7) (v := .ref (mo + 12)) (C := "MacroReckonerModel") (T := TMo) (N := 23) hx hb hts inMo hown hK hP 0 rfl rfl 21 (by decide) (hts _ wt4_79) (fun _ h9 => h9) rfl dMo_increase_110 ?_
                refine lv_sipush (v := iI 340) hx hb dMo_increase_113 (by decide) ?_
                refine lv_iload_n hx hb dMo_increase_116 rfl (lv_at hl 5 rfl) ?_
                refine iv_imul hx hb dMo_increase_117 ?_
                refine lv_iload hx hb dMo_increase_118 (lv_at hl 1 rfl) ?_
                refine iv_iadd hx hb dMo_increase_120 ?_
                refine lv_iload hx hb dMo_increase_121 (lv_at hl 0 rfl) ?_
                refine lv_bipush (v := iI 10) hx hb dMo_increase_123 (by decide) ?_
                refine iv_irem hx hb dMo_increase_125 (by omega) ⟨by omega, by omega⟩ (by omega) ⟨by decide, by decide⟩ ?_
                refine iv_iast (v := sm % 10) hx hb hK hP hD hS 12 0 rfl rfl (by decide) dMo_increase_126 (by omega) (by omega) (fun H locs hP hD hS => ?_)
                have hP : va_P (dC, dI) vwCl (wMo dA mo ft lf hg kk tx pn tk fm tO tl mI mT mS mC mL mB mF mU mX mP mK (up D9 ((340 * i) + d) (sm % 10)) mZ []) H := hP
                have hD : va_D A (wMo dA mo ft lf hg kk tx pn tk fm tO tl mI mT mS mC mL mB mF mU mX mP mK (up D9 ((340 * i) + d) (sm % 10)) mZ []) := hD
                refine lv_iload hx hb dMo_increase_127 (lv_at hl 0 rfl) ?_
                refine lv_bipush (v := iI 10) hx hb dMo_increase_129 (by decide) ?_
                refine iv_idiv hx hb dMo_increase_131 (by omega) ⟨by omega, by omega⟩ (by omega) ⟨by decide, by decide⟩ ?_
                refine lv_istore_n (lv' := [(3, .int (iI (sm / 10))), (6, .int (iI sm)), (5, .int (iI d)), (4, .int (iI n9)), (0, .ref mo), (1, .int (iI i)), (2, .int (iI j))]) hx hb dMo_increase_132 rfl hl (by decide) rfl (fun ls hl => ?_)
                refine lv_iload hx hb dMo_increase_133 (lv_at hl 3 rfl) ?_
                refine lv_iload hx hb dMo_increase_135 (lv_at hl 2 rfl) ?_
                refine lv_iconst (v := iI 1) hx hb dMo_increase_137 rfl ?_
                refine iv_iadd hx hb dMo_increase_138 ?_
                refine iv_icmp_le (tgt := 147) hx hb dMo_increase_139 (by decide) ⟨by omega, by omega⟩ ⟨by omega, by omega⟩ (fun hc139 => ?_) (fun hc139 => ?_)
                · refine lv_iload hx hb dMo_increase_147 (lv_at hl 2 rfl) ?_
                  refine lv_iconst (v := iI 1) hx hb dMo_increase_149 rfl ?_
                  refine iv_iadd hx hb dMo_increase_150 ?_
                  refine lv_istore (lv' := [(4, .int (iI (d + 1))), (3, .int (iI (sm / 10))), (6, .int (iI sm)), (5, .int (iI d)), (0, .ref mo), (1, .int (iI i)), (2, .int (iI j))]) hx hb dMo_increase_151 hl (by decide) rfl (fun ls hl => ?_)
                  refine lv_iinc (k := 3) (lv' := [(5, .int (iI (d + 1))), (4, .int (iI (d + 1))), (3, .int (iI (sm / 10))), (6, .int (iI sm)), (0, .ref mo), (1, .int (iI i)), (2, .int (iI j))]) (v := iI (d + 1)) hx hb dMo_increase_153 hl rfl (iI_add _ _).symm (by decide) rfl (fun ls hl => ?_)
                  refine lv_goto (tgt := 37) hx hb dMo_increase_156 (by decide) ?_
                  exact ih37 (up D9 ((340 * i) + d) (sm % 10)) (sm / 10) (d + 1) (d + 1) H locs ls (by omega) (by exact mi_s hJ hx1 hy1 hx2 hy2 hs9) (by omega) hP hD hS (lv_sub hl [0, 1, 2, 4, 5, 6] rfl)
                · refine lv_iload hx hb dMo_increase_142 (lv_at hl 3 rfl) ?_
                  refine lv_goto (tgt := 151) hx hb dMo_increase_144 (by decide) ?_
                  refine lv_istore (lv' := [(4, .int (iI n9)), (3, .int (iI (sm / 10))), (6, .int (iI sm)), (5, .int (iI d)), (0, .ref mo), (1, .int (iI i)), (2, .int (iI j))]) hx hb dMo_increase_151 hl (by decide) rfl (fun ls hl => ?_)
                  refine lv_iinc (k := 3) (lv' := [(5, .int (iI (d + 1))), (4, .int (iI n9)), (3, .int (iI (sm / 10))), (6, .int (iI sm)), (0, .ref mo), (1, .int (iI i)), (2, .int (iI j))]) (v := iI (d + 1)) hx hb dMo_increase_153 hl rfl (iI_add _ _).symm (by decide) rfl (fun ls hl => ?_)
                  refine lv_goto (tgt := 37) hx hb dMo_increase_156 (by decide) ?_
                  exact ih37 (up D9 ((340 * i) + d) (sm % 10)) (sm / 10) n9 (d + 1) H locs ls (by omega) (by exact mi_s hJ hx1 hy1 hx2 hy2 hs9) (by omega) hP hD hS (lv_sub hl [0, 1, 2, 4, 5, 6] rfl)
              · have hgj := hJ.2.2.2.2.1 (340 * j + d) (by omega)
                have hdj := hM2.1.2.1 d (by omega) (by omega)
                refine lv_aload_n hx hb dMo_increase_89 rfl (lv_at hl 3 rfl) ?_
                refine va_get (D := (dC, dI)) (ci := 7) (v := .ref (mo + 12)) (C := "MacroReckonerModel") (T := TMo) (N := 23) hx hb hts inMo hown hK hP 0 rfl rfl 21 (by decide) (hts _ wt4_79) (fun _ h9 => h9) rfl dMo_increase_90 ?_
                refine lv_sipush (v := iI 340) hx hb dMo_increase_93 (by decide) ?_
                refine lv_iload_n hx hb dMo_increase_96 rfl (lv_at hl 5 rfl) ?_
                refine iv_imul hx hb dMo_increase_97 ?_
                refine lv_iload hx hb dMo_increase_98 (lv_at hl 0 rfl) ?_
                refine iv_iadd hx hb dMo_increase_100 ?_
                refine iv_iald hx hb hK hP 12 0 rfl rfl (by decide) dMo_increase_101 (by omega) (by omega) ?_
                refine lv_goto (tgt := 106) hx hb dMo_increase_102 (by decide) ?_
                refine iv_iadd hx hb dMo_increase_106 ?_
                refine lv_istore (lv' := [(6, .int (iI ((cy + 0) + (D9 ((340 * j) + d))))), (5, .int (iI d)), (4, .int (iI n9)), (3, .int (iI cy)), (0, .ref mo), (1, .int (iI i)), (2, .int (iI j))]) hx hb dMo_increase_107 hl (by decide) rfl (fun ls hl => ?_)
                obtain ⟨sm, e_sm⟩ : ∃ z : Int, z = (cy + 0) + (D9 ((340 * j) + d)) := ⟨_, rfl⟩
                have hl : lv_has ls 7 [(6, .int (iI sm)), (5, .int (iI d)), (4, .int (iI n9)), (3, .int (iI cy)), (0, .ref mo), (1, .int (iI i)), (2, .int (iI j))] := by rw [e_sm]; exact hl
                have hyy : ∃ x y, x = ze (sh mD (340 * i)) (mZ i) d ∧ y = ze (sh mD (340 * j)) (mZ j) d ∧ (0 ≤ x ∧ x ≤ 9) ∧ (0 ≤ y ∧ y ≤ 9) ∧ sm = cy + x + y ∧ ((x = 0 ∧ y = 0) ∨ d < mZ i ∨ d < mZ j) := by rw [e_sm]; first | exact ⟨D9 (340 * i + d), D9 (340 * j + d), by rw [ze_in hc57, hgi]; rfl, by rw [ze_in hc86, hgj]; rfl, by omega, by omega, rfl, by omega⟩ | exact ⟨D9 (340 * i + d), 0, by rw [ze_in hc57, hgi]; rfl, by rw [ze_out hc86], by omega, by omega, rfl, by omega⟩ | exact ⟨0, D9 (340 * j + d), by rw [ze_out hc57], by rw [ze_in hc86, hgj]; rfl, by omega, by omega, rfl, by omega⟩ | exact ⟨0, 0, by rw [ze_out hc57], by rw [ze_out hc86], by omega, by omega, rfl, by omega⟩
                obtain ⟨x9, y9, hx1, hy1, hx2, hy2, hs9, hxy⟩ := hyy
                refine lv_aload_n hx hb dMo_increase_109 rfl (lv_at hl 4 rfl) ?_
                refine va_get (D := (dC, dI)) (ci := 7) (v := .ref (mo + 12)) (C := "MacroReckonerModel") (T := TMo) (N := 23) hx hb hts inMo hown hK hP 0 rfl rfl 21 (by decide) (hts _ wt4_79) (fun _ h9 => h9) rfl dMo_increase_110 ?_
                refine lv_sipush (v := iI 340) hx hb dMo_increase_113 (by decide) ?_
                refine lv_iload_n hx hb dMo_increase_116 rfl (lv_at hl 5 rfl) ?_
                refine iv_imul hx hb dMo_increase_117 ?_
                refine lv_iload hx hb dMo_increase_118 (lv_at hl 1 rfl) ?_
                refine iv_iadd hx hb dMo_increase_120 ?_
                refine lv_iload hx hb dMo_increase_121 (lv_at hl 0 rfl) ?_
                refine lv_bipush (v := iI 10) hx hb dMo_increase_123 (by decide) ?_
                refine iv_irem hx hb dMo_increase_125 (by omega) ⟨by omega, by omega⟩ (by omega) ⟨by decide, by decide⟩ ?_
                refine iv_iast (v := sm % 10) hx hb hK hP hD hS 12 0 rfl rfl (by decide) dMo_increase_126 (by omega) (by omega) (fun H locs hP hD hS => ?_)
                have hP : va_P (dC, dI) vwCl (wMo dA mo ft lf hg kk tx pn tk fm tO tl mI mT mS mC mL mB mF mU mX mP mK (up D9 ((340 * i) + d) (sm % 10)) mZ []) H := hP
                have hD : va_D A (wMo dA mo ft lf hg kk tx pn tk fm tO tl mI mT mS mC mL mB mF mU mX mP mK (up D9 ((340 * i) + d) (sm % 10)) mZ []) := hD
                refine lv_iload hx hb dMo_increase_127 (lv_at hl 0 rfl) ?_
                refine lv_bipush (v := iI 10) hx hb dMo_increase_129 (by decide) ?_
                refine iv_idiv hx hb dMo_increase_131 (by omega) ⟨by omega, by omega⟩ (by omega) ⟨by decide, by decide⟩ ?_
                refine lv_istore_n (lv' := [(3, .int (iI (sm / 10))), (6, .int (iI sm)), (5, .int (iI d)), (4, .int (iI n9)), (0, .ref mo), (1, .int (iI i)), (2, .int (iI j))]) hx hb dMo_increase_132 rfl hl (by decide) rfl (fun ls hl => ?_)
                refine lv_iload hx hb dMo_increase_133 (lv_at hl 3 rfl) ?_
                refine lv_iload hx hb dMo_increase_135 (lv_at hl 2 rfl) ?_
                refine lv_iconst (v := iI 1) hx hb dMo_increase_137 rfl ?_
                refine iv_iadd hx hb dMo_increase_138 ?_
                refine iv_icmp_le (tgt := 147) hx hb dMo_increase_139 (by decide) ⟨by omega, by omega⟩ ⟨by omega, by omega⟩ (fun hc139 => ?_) (fun hc139 => ?_)
                · refine lv_iload hx hb dMo_increase_147 (lv_at hl 2 rfl) ?_
                  refine lv_iconst (v := iI 1) hx hb dMo_increase_149 rfl ?_
                  refine iv_iadd hx hb dMo_increase_150 ?_
                  refine lv_istore (lv' := [(4, .int (iI (d + 1))), (3, .int (iI (sm / 10))), (6, .int (iI sm)), (5, .int (iI d)), (0, .ref mo), (1, .int (iI i)), (2, .int (iI j))]) hx hb dMo_increase_151 hl (by decide) rfl (fun ls hl => ?_)
                  refine lv_iinc (k := 3) (lv' := [(5, .int (iI (d + 1))), (4, .int (iI (d + 1))), (3, .int (iI (sm / 10))), (6, .int (iI sm)), (0, .ref mo), (1, .int (iI i)), (2, .int (iI j))]) (v := iI (d + 1)) hx hb dMo_increase_153 hl rfl (iI_add _ _).symm (by decide) rfl (fun ls hl => ?_)
                  refine lv_goto (tgt := 37) hx hb dMo_increase_156 (by decide) ?_
                  exact ih37 (up D9 ((340 * i) + d) (sm % 10)) (sm / 10) (d + 1) (d + 1) H locs ls (by omega) (by exact mi_s hJ hx1 hy1 hx2 hy2 hs9) (by omega) hP hD hS (lv_sub hl [0, 1, 2, 4, 5, 6] rfl)
                · refine lv_iload hx hb dMo_increase_142 (lv_at hl 3 rfl) ?_
                  refine lv_goto (tgt := 151) hx hb dMo_increase_144 (by decide) ?_
                  refine lv_istore (lv' := [(4, .int (iI n9)), (3, .int (iI (sm / 10))), (6, .int (iI sm)), (5, .int (iI d)), (0, .ref mo), (1, .int (iI i)), (2, .int (iI j))]) hx hb dMo_increase_151 hl (by decide) rfl (fun ls hl => ?_)
                  refine lv_iinc (k := 3) (lv' := [(5, .int (iI (d + 1))), (4, .int (iI n9)), (3, .int (iI (sm / 10))), (6, .int (iI sm)), (0, .ref mo), (1, .int (iI i)), (2, .int (iI j))]) (v := iI (d + 1)) hx hb dMo_increase_153 hl rfl (iI_add _ _).symm (by decide) rfl (fun ls hl => ?_)
                  refine lv_goto (tgt := 37) hx hb dMo_increase_156 (by decide) ?_
                  exact ih37 (up D9 ((340 * i) + d) (sm % 10)) (sm / 10) n9 (d + 1) H locs ls (by omega) (by exact mi_s hJ hx1 hy1 hx2 hy2 hs9) (by omega) hP hD hS (lv_sub hl [0, 1, 2, 4, 5, 6] rfl)
            · have hgi := hJ.2.2.2.2.1 (340 * i + d) (by omega)
              have hdi := hM.1.2.1 d (by omega) (by omega)
              refine lv_aload_n hx hb dMo_increase_60 rfl (lv_at hl 3 rfl) ?_
              refine va_get (D := (dC, dI)) (ci := 7) (v := .ref (mo + 12)) (C := "MacroReckonerModel") (T := TMo) (N := 23) hx hb hts inMo hown hK hP 0 rfl rfl 21 (by decide) (hts _ wt4_79) (fun _ h9 => h9) rfl dMo_increase_61 ?_
              refine lv_sipush (v := iI 340) hx hb dMo_increase_64 (by decide) ?_
              refine lv_iload_n hx hb dMo_increase_67 rfl (lv_at hl 4 rfl) ?_
              refine iv_imul hx hb dMo_increase_68 ?_
              refine lv_iload hx hb dMo_increase_69 (lv_at hl 0 rfl) ?_
              refine iv_iadd hx hb dMo_increase_71 ?_
              refine iv_iald hx hb hK hP 12 0 rfl rfl (by decide) dMo_increase_72 (by omega) (by omega) ?_
              refine lv_goto (tgt := 77) hx hb dMo_increase_73 (by decide) ?_
              refine iv_iadd hx hb dMo_increase_77 ?_
              refine lv_iload hx hb dMo_increase_78 (lv_at hl 0 rfl) ?_
              refine lv_aload_n hx hb dMo_increase_80 rfl (lv_at hl 3 rfl) ?_
              refine va_get (D := (dC, dI)) (ci := 7) (v := .ref (mo + 13)) (C := "MacroReckonerModel") (T := TMo) (N := 23) hx hb hts inMo hown hK hP 0 rfl rfl 22 (by decide) (hts _ wt4_80) (fun _ h9 => h9) rfl dMo_increase_81 ?_
              refine lv_iload_n hx hb dMo_increase_84 rfl (lv_at hl 5 rfl) ?_
              refine iv_iald hx hb hK hP 13 0 rfl rfl (by decide) dMo_increase_85 (by omega) (by omega) ?_
              refine iv_icmp_ge (tgt := 105) hx hb dMo_increase_86 (by decide) ⟨by omega, by omega⟩ ⟨by omega, by omega⟩ (fun hc86 => ?_) (fun hc86 => ?_)
              · refine lv_iconst (v := iI 0) hx hb dMo_increase_105 rfl ?_
                refine iv_iadd hx hb dMo_increase_106 ?_
                refine lv_istore (lv' := [(6, .int (iI ((cy + (D9 ((340 * i) + d))) + 0))), (5, .int (iI d)), (4, .int (iI n9)), (3, .int (iI cy)), (0, .ref mo), (1, .int (iI i)), (2, .int (iI j))]) hx hb dMo_increase_107 hl (by decide) rfl (fun ls hl => ?_)
                obtain ⟨sm, e_sm⟩ : ∃ z : Int, z = (cy + (D9 ((340 * i) + d))) + 0 := ⟨_, rfl⟩
                have hl : lv_has ls 7 [(6, .int (iI sm)), (5, .int (iI d)), (4, .int (iI n9)), (3, .int (iI cy)), (0, .ref mo), (1, .int (iI i)), (2, .int (iI j))] := by rw [e_sm]; exact hl
                have hyy : ∃ x y, x = ze (sh mD (340 * i)) (mZ i) d ∧ y = ze (sh mD (340 * j)) (mZ j) d ∧ (0 ≤ x ∧ x ≤ 9) ∧ (0 ≤ y ∧ y ≤ 9) ∧ sm = cy + x + y ∧ ((x = 0 ∧ y = 0) ∨ d < mZ i ∨ d < mZ j) := by rw [e_sm]; first | exact ⟨D9 (340 * i + d), D9 (340 * j + d), by rw [ze_in hc57, hgi]; rfl, by rw [ze_in hc86, hgj]; rfl, by omega, by omega, rfl, by omega⟩ | exact ⟨D9 (340 * i + d), 0, by rw [ze_in hc57, hgi]; rfl, by rw [ze_out hc86], by omega, by omega, rfl, by omega⟩ | exact ⟨0, D9 (340 * j + d), by rw [ze_out hc57], by rw [ze_in hc86, hgj]; rfl, by omega, by omega, rfl, by omega⟩ | exact ⟨0, 0, by rw [ze_out hc57], by rw [ze_out hc86], by omega, by omega, rfl, by omega⟩
                obtain ⟨x9, y9, hx1, hy1, hx2, hy2, hs9, hxy⟩ := hyy
                refine lv_aload_n hx hb dMo_increase_109 rfl (lv_at hl 4 rfl) ?_
                refine va_get (D := (dC, dI)) (ci := 7) (v := .ref (mo + 12)) (C := "MacroReckonerModel") (T := TMo) (N := 23) hx hb hts inMo hown hK hP 0 rfl rfl 21 (by decide) (hts _ wt4_79) (fun _ h9 => h9) rfl dMo_increase_110 ?_
                refine lv_sipush (v := iI 340) hx hb dMo_increase_113 (by decide) ?_
                refine lv_iload_n hx hb dMo_increase_116 rfl (lv_at hl 5 rfl) ?_
                refine iv_imul hx hb dMo_increase_117 ?_
                refine lv_iload hx hb dMo_increase_118 (lv_at hl 1 rfl) ?_
                refine iv_iadd hx hb dMo_increase_120 ?_
                refine lv_iload hx hb dMo_increase_121 (lv_at hl 0 rfl) ?_
                refine lv_bipush (v := iI 10) hx hb dMo_increase_123 (by decide) ?_
                refine iv_irem hx hb dMo_increase_125 (by omega) ⟨by omega, by omega⟩ (by omega) ⟨by decide, by decide⟩ ?_
                refine iv_iast (v := sm % 10) hx hb hK hP hD hS 12 0 rfl rfl (by decide) dMo_increase_126 (by omega) (by omega) (fun H locs hP hD hS => ?_)
                have hP : va_P (dC, dI) vwCl (wMo dA mo ft lf hg kk tx pn tk fm tO tl mI mT mS mC mL mB mF mU mX mP mK (up D9 ((340 * i) + d) (sm % 10)) mZ []) H := hP
                have hD : va_D A (wMo dA mo ft lf hg kk tx pn tk fm tO tl mI mT mS mC mL mB mF mU mX mP mK (up D9 ((340 * i) + d) (sm % 10)) mZ []) := hD
                refine lv_iload hx hb dMo_increase_127 (lv_at hl 0 rfl) ?_
                refine lv_bipush (v := iI 10) hx hb dMo_increase_129 (by decide) ?_
                refine iv_idiv hx hb dMo_increase_131 (by omega) ⟨by omega, by omega⟩ (by omega) ⟨by decide, by decide⟩ ?_
                refine lv_istore_n (lv' := [(3, .int (iI (sm / 10))), (6, .int (iI sm)), (5, .int (iI d)), (4, .int (iI n9)), (0, .ref mo), (1, .int (iI i)), (2, .int (iI j))]) hx hb dMo_increase_132 rfl hl (by decide) rfl (fun ls hl => ?_)
                refine lv_iload hx hb dMo_increase_133 (lv_at hl 3 rfl) ?_
                refine lv_iload hx hb dMo_increase_135 (lv_at hl 2 rfl) ?_
                refine lv_iconst (v := iI 1) hx hb dMo_increase_137 rfl ?_
                refine iv_iadd hx hb dMo_increase_138 ?_
                refine iv_icmp_le (tgt := 147) hx hb dMo_increase_139 (by decide) ⟨by omega, by omega⟩ ⟨by omega, by omega⟩ (fun hc139 => ?_) (fun hc139 => ?_)
                · refine lv_iload hx hb dMo_increase_147 (lv_at hl 2 rfl) ?_
                  refine lv_iconst (v := iI 1) hx hb dMo_increase_149 rfl ?_
                  refine iv_iadd hx hb dMo_increase_150 ?_
                  refine lv_istore (lv' := [(4, .int (iI (d + 1))), (3, .int (iI (sm / 10))), (6, .int (iI sm)), (5, .int (iI d)), (0, .ref mo), (1, .int (iI i)), (2, .int (iI j))]) hx hb dMo_increase_151 hl (by decide) rfl (fun ls hl => ?_)
                  refine lv_iinc (k := 3) (lv' := [(5, .int (iI (d + 1))), (4, .int (iI (d + 1))), (3, .int (iI (sm / 10))), (6, .int (iI sm)), (0, .ref mo), (1, .int (iI i)), (2, .int (iI j))]) (v := iI (d + 1)) hx hb dMo_increase_153 hl rfl (iI_add _ _).symm (by decide) rfl (fun ls hl => ?_)
                  refine lv_goto (tgt := 37) hx hb dMo_increase_156 (by decide) ?_
                  exact ih37 (up D9 ((340 * i) + d) (sm % 10)) (sm / 10) (d + 1) (d + 1) H locs ls (by omega) (by exact mi_s hJ hx1 hy1 hx2 hy2 hs9) (by omega) hP hD hS (lv_sub hl [0, 1, 2, 4, 5, 6] rfl)
                · refine lv_iload hx hb dMo_increase_142 (lv_at hl 3 rfl) ?_
                  refine lv_goto (tgt := 151) hx hb dMo_increase_144 (by decide) ?_
                  refine lv_istore (lv' := [(4, .int (iI n9)), (3, .int (iI (sm / 10))), (6, .int (iI sm)), (5, .int (iI d)), (0, .ref mo), (1, .int (iI i)), (2, .int (iI j))]) hx hb dMo_increase_151 hl (by decide) rfl (fun ls hl => ?_)
                  refine lv_iinc (k := 3) (lv' := [(5, .int (iI (d + 1))), (4, .int (iI n9)), (3, .int (iI (sm / 10))), (6, .int (iI sm)), (0, .ref mo), (1, .int (iI i)), (2, .int (iI j))]) (v := iI (d + 1)) hx hb dMo_increase_153 hl rfl (iI_add _ _).symm (by decide) rfl (fun ls hl => ?_)
                  refine lv_goto (tgt := 37) hx hb dMo_increase_156 (by decide) ?_
                  exact ih37 (up D9 ((340 * i) + d) (sm % 10)) (sm / 10) n9 (d + 1) H locs ls (by omega) (by exact mi_s hJ hx1 hy1 hx2 hy2 hs9) (by omega) hP hD hS (lv_sub hl [0, 1, 2, 4, 5, 6] rfl)
              · have hgj := hJ.2.2.2.2.1 (340 * j + d) (by omega)
                have hdj := hM2.1.2.1 d (by omega) (by omega)
                refine lv_aload_n hx hb dMo_increase_89 rfl (lv_at hl 3 rfl) ?_
                refine va_get (D := (dC, dI)) (ci := 7) (v := .ref (mo + 12)) (C := "MacroReckonerModel") (T := TMo) (N := 23) hx hb hts inMo hown hK hP 0 rfl rfl 21 (by decide) (hts _ wt4_79) (fun _ h9 => h9) rfl dMo_increase_90 ?_
                refine lv_sipush (v := iI 340) hx hb dMo_increase_93 (by decide) ?_
                refine lv_iload_n hx hb dMo_increase_96 rfl (lv_at hl 5 rfl) ?_
                refine iv_imul hx hb dMo_increase_97 ?_
                refine lv_iload hx hb dMo_increase_98 (lv_at hl 0 rfl) ?_
                refine iv_iadd hx hb dMo_increase_100 ?_
                refine iv_iald hx hb hK hP 12 0 rfl rfl (by decide) dMo_increase_101 (by omega) (by omega) ?_
                refine lv_goto (tgt := 106) hx hb dMo_increase_102 (by decide) ?_
                refine iv_iadd hx hb dMo_increase_106 ?_
                refine lv_istore (lv' := [(6, .int (iI ((cy + (D9 ((340 * i) + d))) + (D9 ((340 * j) + d))))), (5, .int (iI d)), (4, .int (iI n9)), (3, .int (iI cy)), (0, .ref mo), (1, .int (iI i)), (2, .int (iI j))]) hx hb dMo_increase_107 hl (by decide) rfl (fun ls hl => ?_)
                obtain ⟨sm, e_sm⟩ : ∃ z : Int, z = (cy + (D9 ((340 * i) + d))) + (D9 ((340 * j) + d)) := ⟨_, rfl⟩
                have hl : lv_has ls 7 [(6, .int (iI sm)), (5, .int (iI d)), (4, .int (iI n9)), (3, .int (iI cy)), (0, .ref mo), (1, .int (iI i)), (2, .int (iI j))] := by rw [e_sm]; exact hl
                have hyy : ∃ x y, x = ze (sh mD (340 * i)) (mZ i) d ∧ y = ze (sh mD (340 * j)) (mZ j) d ∧ (0 ≤ x ∧ x ≤ 9) ∧ (0 ≤ y ∧ y ≤ 9) ∧ sm = cy + x + y ∧ ((x = 0 ∧ y = 0) ∨ d < mZ i ∨ d < mZ j) := by rw [e_sm]; first | exact ⟨D9 (340 * i + d), D9 (340 * j + d), by rw [ze_in hc57, hgi]; rfl, by rw [ze_in hc86, hgj]; rfl, by omega, by omega, rfl, by omega⟩ | exact ⟨D9 (340 * i + d), 0, by rw [ze_in hc57, hgi]; rfl, by rw [ze_out hc86], by omega, by omega, rfl, by omega⟩ | exact ⟨0, D9 (340 * j + d), by rw [ze_out hc57], by rw [ze_in hc86, hgj]; rfl, by omega, by omega, rfl, by omega⟩ | exact ⟨0, 0, by rw [ze_out hc57], by rw [ze_out hc86], by omega, by omega, rfl, by omega⟩
                obtain ⟨x9, y9, hx1, hy1, hx2, hy2, hs9, hxy⟩ := hyy
                refine lv_aload_n hx hb dMo_increase_109 rfl (lv_at hl 4 rfl) ?_
                refine va_get (D := (dC, dI)) (ci := 7) (v := .ref (mo + 12)) (C := "MacroReckonerModel") (T := TMo) (N := 23) hx hb hts inMo hown hK hP 0 rfl rfl 21 (by decide) (hts _ wt4_79) (fun _ h9 => h9) rfl dMo_increase_110 ?_
                refine lv_sipush (v := iI 340) hx hb dMo_increase_113 (by decide) ?_
                refine lv_iload_n hx hb dMo_increase_116 rfl (lv_at hl 5 rfl) ?_
                refine iv_imul hx hb dMo_increase_117 ?_
                refine lv_iload hx hb dMo_increase_118 (lv_at hl 1 rfl) ?_
                refine iv_iadd hx hb dMo_increase_120 ?_
                refine lv_iload hx hb dMo_increase_121 (lv_at hl 0 rfl) ?_
                refine lv_bipush (v := iI 10) hx hb dMo_increase_123 (by decide) ?_
                refine iv_irem hx hb dMo_increase_125 (by omega) ⟨by omega, by omega⟩ (by omega) ⟨by decide, by decide⟩ ?_
                refine iv_iast (v := sm % 10) hx hb hK hP hD hS 12 0 rfl rfl (by decide) dMo_increase_126 (by omega) (by omega) (fun H locs hP hD hS => ?_)
                have hP : va_P (dC, dI) vwCl (wMo dA mo ft lf hg kk tx pn tk fm tO tl mI mT mS mC mL mB mF mU mX mP mK (up D9 ((340 * i) + d) (sm % 10)) mZ []) H := hP
                have hD : va_D A (wMo dA mo ft lf hg kk tx pn tk fm tO tl mI mT mS mC mL mB mF mU mX mP mK (up D9 ((340 * i) + d) (sm % 10)) mZ []) := hD
                refine lv_iload hx hb dMo_increase_127 (lv_at hl 0 rfl) ?_
                refine lv_bipush (v := iI 10) hx hb dMo_increase_129 (by decide) ?_
                refine iv_idiv hx hb dMo_increase_131 (by omega) ⟨by omega, by omega⟩ (by omega) ⟨by decide, by decide⟩ ?_
                refine lv_istore_n (lv' := [(3, .int (iI (sm / 10))), (6, .int (iI sm)), (5, .int (iI d)), (4, .int (iI n9)), (0, .ref mo), (1, .int (iI i)), (2, .int (iI j))]) hx hb dMo_increase_132 rfl hl (by decide) rfl (fun ls hl => ?_)
                refine lv_iload hx hb dMo_increase_133 (lv_at hl 3 rfl) ?_
                refine lv_iload hx hb dMo_increase_135 (lv_at hl 2 rfl) ?_
                refine lv_iconst (v := iI 1) hx hb dMo_increase_137 rfl ?_
                refine iv_iadd hx hb dMo_increase_138 ?_
                refine iv_icmp_le (tgt := 147) hx hb dMo_increase_139 (by decide) ⟨by omega, by omega⟩ ⟨by omega, by omega⟩ (fun hc139 => ?_) (fun hc139 => ?_)
                · refine lv_iload hx hb dMo_increase_147 (lv_at hl 2 rfl) ?_
                  refine lv_iconst (v := iI 1) hx hb dMo_increase_149 rfl ?_
                  refine iv_iadd hx hb dMo_increase_150 ?_
                  refine lv_istore (lv' := [(4, .int (iI (d + 1))), (3, .int (iI (sm / 10))), (6, .int (iI sm)), (5, .int (iI d)), (0, .ref mo), (1, .int (iI i)), (2, .int (iI j))]) hx hb dMo_increase_151 hl (by decide) rfl (fun ls hl => ?_)
                  refine lv_iinc (k := 3) (lv' := [(5, .int (iI (d + 1))), (4, .int (iI (d + 1))), (3, .int (iI (sm / 10))), (6, .int (iI sm)), (0, .ref mo), (1, .int (iI i)), (2, .int (iI j))]) (v := iI (d + 1)) hx hb dMo_increase_153 hl rfl (iI_add _ _).symm (by decide) rfl (fun ls hl => ?_)
                  refine lv_goto (tgt := 37) hx hb dMo_increase_156 (by decide) ?_
                  exact ih37 (up D9 ((340 * i) + d) (sm % 10)) (sm / 10) (d + 1) (d + 1) H locs ls (by omega) (by exact mi_s hJ hx1 hy1 hx2 hy2 hs9) (by omega) hP hD hS (lv_sub hl [0, 1, 2, 4, 5, 6] rfl)
                · refine lv_iload hx hb dMo_increase_142 (lv_at hl 3 rfl) ?_
                  refine lv_goto (tgt := 151) hx hb dMo_increase_144 (by decide) ?_
                  refine lv_istore (lv' := [(4, .int (iI n9)), (3, .int (iI (sm / 10))), (6, .int (iI sm)), (5, .int (iI d)), (0, .ref mo), (1, .int (iI i)), (2, .int (iI j))]) hx hb dMo_increase_151 hl (by decide) rfl (fun ls hl => ?_)
                  refine lv_iinc (k := 3) (lv' := [(5, .int (iI (d + 1))), (4, .int (iI n9)), (3, .int (iI (sm / 10))), (6, .int (iI sm)), (0, .ref mo), (1, .int (iI i)), (2, .int (iI j))]) (v := iI (d + 1)) hx hb dMo_increase_153 hl rfl (iI_add _ _).symm (by decide) rfl (fun ls hl => ?_)
                  refine lv_goto (tgt := 37) hx hb dMo_increase_156 (by decide) ?_
                  exact ih37 (up D9 ((340 * i) + d) (sm % 10)) (sm / 10) n9 (d + 1) H locs ls (by omega) (by exact mi_s hJ hx1 hy1 hx2 hy2 hs9) (by omega) hP hD hS (lv_sub hl [0, 1, 2, 4, 5, 6] rfl)
    exact L37 _ mD 0 nz 0 H locs ls (by omega) (by exact mi_0) (Nat.lt_succ_self _) hP hD hS (lv_sub hl [0, 1, 2, 3, 4, 5] rfl)
  · refine lv_aload_n hx hb dMo_increase_17 rfl (lv_at hl 1 rfl) ?_
    refine va_get (D := (dC, dI)) (ci := 7) (v := .ref (mo + 13)) (C := "MacroReckonerModel") (T := TMo) (N := 23) hx hb hts inMo hown hK hP 0 rfl rfl 22 (by decide) (hts _ wt4_80) (fun _ h9 => h9) rfl dMo_increase_18 ?_
    refine lv_iload_n hx hb dMo_increase_21 rfl (lv_at hl 2 rfl) ?_
    refine iv_iald hx hb hK hP 13 0 rfl rfl (by decide) dMo_increase_22 (by omega) (by omega) ?_
    refine lv_goto (tgt := 32) hx hb dMo_increase_23 (by decide) ?_
    refine lv_istore (lv' := [(4, .int (iI (mZ i))), (3, .int (iI 0)), (0, .ref mo), (1, .int (iI i)), (2, .int (iI j))]) hx hb dMo_increase_32 hl (by decide) rfl (fun ls hl => ?_)
    obtain ⟨nz, e_nz⟩ : ∃ z : Int, z = mZ i := ⟨_, rfl⟩
    have hl : lv_has ls 7 [(4, .int (iI nz)), (3, .int (iI 0)), (0, .ref mo), (1, .int (iI i)), (2, .int (iI j))] := by rw [e_nz]; exact hl
    have hnz : (mZ i ≤ nz ∧ mZ j ≤ nz) ∧ (nz = mZ i ∨ nz = mZ j) := by omega
    refine lv_iconst (v := iI 0) hx hb dMo_increase_34 rfl ?_
    refine lv_istore (lv' := [(5, .int (iI 0)), (4, .int (iI nz)), (3, .int (iI 0)), (0, .ref mo), (1, .int (iI i)), (2, .int (iI j))]) hx hb dMo_increase_35 hl (by decide) rfl (fun ls hl => ?_)
    have L37 : ∀ (n : Nat) (D9 : Int → Int) (cy : Int) (n9 : Int) (d : Int) (H : Heap) (locs : List Loc) (ls : Array Slot), (0 ≤ d ∧ d ≤ n9 ∧ nz ≤ n9 ∧ (n9 = nz ∨ n9 = d) ∧ d ≤ nz + 1 ∧ (nz < d → cy = 0)) → (miJ mD i (ze (sh mD (340 * i)) (mZ i)) (ze (sh mD (340 * j)) (mZ j)) D9 cy d) → (nz + 2 - d).toNat < n → va_P (dC, dI) vwCl (wMo dA mo ft lf hg kk tx pn tk fm tO tl mI mT mS mC mL mB mF mU mX mP mK D9 mZ []) H → va_D A (wMo dA mo ft lf hg kk tx pn tk fm tO tl mI mT mS mC mL mB mF mU mX mP mK D9 mZ []) → va_S A s.heap H locs → lv_has ls 7 [(5, .int (iI d)), (4, .int (iI n9)), (3, .int (iI cy)), (0, .ref mo), (1, .int (iI i)), (2, .int (iI j))] → W p l e rmMo_increase s m [.ref mo, .int (iI i), .int (iI j)].toArray below meth c H locs 0 0 (MQ below (qMo_increase dC dI dA mo ft lf hg kk tx pn tk fm tO tl mI mT mS mC mL mB mF mU mX mP mK mD mZ i j N M A) [.ref mo, .int (iI i), .int (iI j)].toArray s 0 0 A) (F0 m 37 ls []) := by
      intro n
      induction n with
      | zero => intro D9 cy n9 d H locs ls hd hJ hn; omega
      | succ n ih =>
        intro D9 cy n9 d H locs ls hd hJ hn hP hD hS hl
        have hj1 := hJ.1
        have hj2 := hJ.2.1
        have hj3 := hJ.2.2.1
        have ih37 := ih
        refine lv_iload hx hb dMo_increase_37 (lv_at hl 0 rfl) ?_
        refine lv_iload hx hb dMo_increase_39 (lv_at hl 1 rfl) ?_
        refine iv_icmp_lt (tgt := 48) hx hb dMo_increase_41 (by decide) ⟨by omega, by omega⟩ ⟨by omega, by omega⟩ (fun hc41 => ?_) (fun hc41 => ?_)
        · have hdn : d ≤ nz := by omega
          refine lv_iload_n hx hb dMo_increase_48 rfl (lv_at hl 2 rfl) ?_
          refine lv_iload hx hb dMo_increase_49 (lv_at hl 0 rfl) ?_
          refine lv_aload_n hx hb dMo_increase_51 rfl (lv_at hl 3 rfl) ?_
          refine va_get (D := (dC, dI)) (ci := 7) (v := .ref (mo + 13)) (C := "MacroReckonerModel") (T := TMo) (N := 23) hx hb hts inMo hown hK hP 0 rfl rfl 22 (by decide) (hts _ wt4_80) (fun _ h9 => h9) rfl dMo_increase_52 ?_
          refine lv_iload_n hx hb dMo_increase_55 rfl (lv_at hl 4 rfl) ?_
          refine iv_iald hx hb hK hP 13 0 rfl rfl (by decide) dMo_increase_56 (by omega) (by omega) ?_
          refine iv_icmp_ge (tgt := 76) hx hb dMo_increase_57 (by decide) ⟨by omega, by omega⟩ ⟨by omega, by omega⟩ (fun hc57 => ?_) (fun hc57 => ?_)
          · refine lv_iconst (v := iI 0) hx hb dMo_increase_76 rfl ?_
            refine iv_iadd hx hb dMo_increase_77 ?_
            refine lv_iload hx hb dMo_increase_78 (lv_at hl 0 rfl) ?_
            refine lv_aload_n hx hb dMo_increase_80 rfl (lv_at hl 3 rfl) ?_
            refine va_get (D := (dC, dI)) (ci := 7) (v := .ref (mo + 13)) (C := "MacroReckonerModel") (T := TMo) (N := 23) hx hb hts inMo hown hK hP 0 rfl rfl 22 (by decide) (hts _ wt4_80) (fun _ h9 => h9) rfl dMo_increase_81 ?_
            refine lv_iload_n hx hb dMo_increase_84 rfl (lv_at hl 5 rfl) ?_
            refine iv_iald hx hb hK hP 13 0 rfl rfl (by decide) dMo_increase_85 (by omega) (by omega) ?_
            refine iv_icmp_ge (tgt := 105) hx hb dMo_increase_86 (by decide) ⟨by omega, by omega⟩ ⟨by omega, by omega⟩ (fun hc86 => ?_) (fun hc86 => ?_)
            · refine lv_iconst (v := iI 0) hx hb dMo_increase_105 rfl ?_
              refine iv_iadd hx hb dMo_increase_106 ?_
              refine lv_istore (lv' := [(6, .int (iI ((cy + 0) + 0))), (5, .int (iI d)), (4, .int (iI n9)), (3, .int (iI cy)), (0, .ref mo), (1, .int (iI i)), (2, .int (iI j))]) hx hb dMo_increase_107 hl (by decide) rfl (fun ls hl => ?_)
              obtain ⟨sm, e_sm⟩ : ∃ z : Int, z = (cy + 0) + 0 := ⟨_, rfl⟩
              have hl : lv_has ls 7 [(6, .int (iI sm)), (5, .int (iI d)), (4, .int (iI n9)), (3, .int (iI cy)), (0, .ref mo), (1, .int (iI i)), (2, .int (iI j))] := by rw [e_sm]; exact hl
              have hyy : ∃ x y, x = ze (sh mD (340 * i)) (mZ i) d ∧ y = ze (sh mD (340 * j)) (mZ j) d ∧ (0 ≤ x ∧ x ≤ 9) ∧ (0 ≤ y ∧ y ≤ 9) ∧ sm = cy + x + y ∧ ((x = 0 ∧ y = 0) ∨ d < mZ i ∨ d < mZ j) := by rw [e_sm]; first | exact ⟨D9 (340 * i + d), D9 (340 * j + d), by rw [ze_in hc57, hgi]; rfl, by rw [ze_in hc86, hgj]; rfl, by omega, by omega, rfl, by omega⟩ | exact ⟨D9 (340 * i + d), 0, by rw [ze_in hc57, hgi]; rfl, by rw [ze_out hc86], by omega, by omega, rfl, by omega⟩ | exact ⟨0, D9 (340 * j + d), by rw [ze_out hc57], by rw [ze_in hc86, hgj]; rfl, by omega, by omega, rfl, by omega⟩ | exact ⟨0, 0, by rw [ze_out hc57], by rw [ze_out hc86], by omega, by omega, rfl, by omega⟩
              obtain ⟨x9, y9, hx1, hy1, hx2, hy2, hs9, hxy⟩ := hyy
              refine lv_aload_n hx hb dMo_increase_109 rfl (lv_at hl 4 rfl) ?_
              refine va_get (D := (dC, dI)) (ci := 7) (v := .ref (mo + 12)) (C := "MacroReckonerModel") (T := TMo) (N := 23) hx hb hts inMo hown hK hP 0 rfl rfl 21 (by decide) (hts _ wt4_79) (fun _ h9 => h9) rfl dMo_increase_110 ?_
              refine lv_sipush (v := iI 340) hx hb dMo_increase_113 (by decide) ?_
              refine lv_iload_n hx hb dMo_increase_116 rfl (lv_at hl 5 rfl) ?_
              refine iv_imul hx hb dMo_increase_117 ?_
              refine lv_iload hx hb dMo_increase_118 (lv_at hl 1 rfl) ?_
              refine iv_iadd hx hb dMo_increase_120 ?_
              refine lv_iload hx hb dMo_increase_121 (lv_at hl 0 rfl) ?_
              refine lv_bipush (v := iI 10) hx hb dMo_increase_123 (by decide) ?_
              refine iv_irem hx hb dMo_increase_125 (by omega) ⟨by omega, by omega⟩ (by omega) ⟨by decide, by decide⟩ ?_
              refine iv_iast (v := sm % 10) hx hb hK hP hD hS 12 0 rfl rfl (by decide) dMo_increase_126 (by omega) (by omega) (fun H locs hP hD hS => ?_)
              have hP : va_P (dC, dI) vwCl (wMo dA mo ft lf hg kk tx pn tk fm tO tl mI mT mS mC mL mB mF mU mX mP mK (up D9 ((340 * i) + d) (sm % 10)) mZ []) H := hP
              have hD : va_D A (wMo dA mo ft lf hg kk tx pn tk fm tO tl mI mT mS mC mL mB mF mU mX mP mK (up D9 ((340 * i) + d) (sm % 10)) mZ []) := hD
              refine lv_iload hx hb dMo_increase_127 (lv_at hl 0 rfl) ?_
              refine lv_bipush (v := iI 10) hx hb dMo_increase_129 (by decide) ?_
              refine iv_idiv hx hb dMo_increase_131 (by omega) ⟨by omega, by omega⟩ (by omega) ⟨by decide, by decide⟩ ?_
              refine lv_istore_n (lv' := [(3, .int (iI (sm / 10))), (6, .int (iI sm)), (5, .int (iI d)), (4, .int (iI n9)), (0, .ref mo), (1, .int (iI i)), (2, .int (iI j))]) hx hb dMo_increase_132 rfl hl (by decide) rfl (fun ls hl => ?_)
              refine lv_iload hx hb dMo_increase_133 (lv_at hl 3 rfl) ?_
              refine lv_iload hx hb dMo_increase_135 (lv_at hl 2 rfl) ?_
              refine lv_iconst (v := iI 1) hx hb dMo_increase_137 rfl ?_
              refine iv_iadd hx hb dMo_increase_138 ?_
              refine iv_icmp_le (tgt := 147) hx hb dMo_increase_139 (by decide) ⟨by omega, by omega⟩ ⟨by omega, by omega⟩ (fun hc139 => ?_) (fun hc139 => ?_)
              · refine lv_iload hx hb dMo_increase_147 (lv_at hl 2 rfl) ?_
                refine lv_iconst (v := iI 1) hx hb dMo_increase_149 rfl ?_
                refine iv_iadd hx hb dMo_increase_150 ?_
                refine lv_istore (lv' := [(4, .int (iI (d + 1))), (3, .int (iI (sm / 10))), (6, .int (iI sm)), (5, .int (iI d)), (0, .ref mo), (1, .int (iI i)), (2, .int (iI j))]) hx hb dMo_increase_151 hl (by decide) rfl (fun ls hl => ?_)
                refine lv_iinc (k := 3) (lv' := [(5, .int (iI (d + 1))), (4, .int (iI (d + 1))), (3, .int (iI (sm / 10))), (6, .int (iI sm)), (0, .ref mo), (1, .int (iI i)), (2, .int (iI j))]) (v := iI (d + 1)) hx hb dMo_increase_153 hl rfl (iI_add _ _).symm (by decide) rfl (fun ls hl => ?_)
                refine lv_goto (tgt := 37) hx hb dMo_increase_156 (by decide) ?_
                exact ih37 (up D9 ((340 * i) + d) (sm % 10)) (sm / 10) (d + 1) (d + 1) H locs ls (by omega) (by exact mi_s hJ hx1 hy1 hx2 hy2 hs9) (by omega) hP hD hS (lv_sub hl [0, 1, 2, 4, 5, 6] rfl)
              · refine lv_iload hx hb dMo_increase_142 (lv_at hl 3 rfl) ?_
                refine lv_goto (tgt := 151) hx hb dMo_increase_144 (by decide) ?_
                refine lv_istore (lv' := [(4, .int (iI n9)), (3, .int (iI (sm / 10))), (6, .int (iI sm)), (5, .int (iI d)), (0, .ref mo), (1, .int (iI i)), (2, .int (iI j))]) hx hb dMo_increase_151 hl (by decide) rfl (fun ls hl => ?_)
                refine lv_iinc (k := 3) (lv' := [(5, .int (iI (d + 1))), (4, .int (iI n9)), (3, .int (iI (sm / 10))), (6, .int (iI sm)), (0, .ref mo), (1, .int (iI i)), (2, .int (iI j))]) (v := iI (d + 1)) hx hb dMo_increase_153 hl rfl (iI_add _ _).symm (by decide) rfl (fun ls hl => ?_)
                refine lv_goto (tgt := 37) hx hb dMo_increase_156 (by decide) ?_
                exact ih37 (up D9 ((340 * i) + d) (sm % 10)) (sm / 10) n9 (d + 1) H locs ls (by omega) (by exact mi_s hJ hx1 hy1 hx2 hy2 hs9) (by omega) hP hD hS (lv_sub hl [0, 1, 2, 4, 5, 6] rfl)
            · have hgj := hJ.2.2.2.2.1 (340 * j + d) (by omega)
              have hdj := hM2.1.2.1 d (by omega) (by omega)
              refine lv_aload_n hx hb dMo_increase_89 rfl (lv_at hl 3 rfl) ?_
              refine va_get (D := (dC, dI)) (ci := 7) (v := .ref (mo + 12)) (C := "MacroReckonerModel") (T := TMo) (N := 23) hx hb hts inMo hown hK hP 0 rfl rfl 21 (by decide) (hts _ wt4_79) (fun _ h9 => h9) rfl dMo_increase_90 ?_
              refine lv_sipush (v := iI 340) hx hb dMo_increase_93 (by decide) ?_
              refine lv_iload_n hx hb dMo_increase_96 rfl (lv_at hl 5 rfl) ?_
              refine iv_imul hx hb dMo_increase_97 ?_
              refine lv_iload hx hb dMo_increase_98 (lv_at hl 0 rfl) ?_
              refine iv_iadd hx hb dMo_increase_100 ?_
              refine iv_iald hx hb hK hP 12 0 rfl rfl (by decide) dMo_increase_101 (by omega) (by omega) ?_
              refine lv_goto (tgt := 106) hx hb dMo_increase_102 (by decide) ?_
              refine iv_iadd hx hb dMo_increase_106 ?_
              refine lv_istore (lv' := [(6, .int (iI ((cy + 0) + (D9 ((340 * j) + d))))), (5, .int (iI d)), (4, .int (iI n9)), (3, .int (iI cy)), (0, .ref mo), (1, .int (iI i)), (2, .int (iI j))]) hx hb dMo_increase_107 hl (by decide) rfl (fun ls hl => ?_)
              obtain ⟨sm, e_sm⟩ : ∃ z : Int, z = (cy + 0) + (D9 ((340 * j) + d)) := ⟨_, rfl⟩
              have hl : lv_has ls 7 [(6, .int (iI sm)), (5, .int (iI d)), (4, .int (iI n9)), (3, .int (iI cy)), (0, .ref mo), (1, .int (iI i)), (2, .int (iI j))] := by rw [e_sm]; exact hl
              have hyy : ∃ x y, x = ze (sh mD (340 * i)) (mZ i) d ∧ y = ze (sh mD (340 * j)) (mZ j) d ∧ (0 ≤ x ∧ x ≤ 9) ∧ (0 ≤ y ∧ y ≤ 9) ∧ sm = cy + x + y ∧ ((x = 0 ∧ y = 0) ∨ d < mZ i ∨ d < mZ j) := by rw [e_sm]; first | exact ⟨D9 (340 * i + d), D9 (340 * j + d), by rw [ze_in hc57, hgi]; rfl, by rw [ze_in hc86, hgj]; rfl, by omega, by omega, rfl, by omega⟩ | exact ⟨D9 (340 * i + d), 0, by rw [ze_in hc57, hgi]; rfl, by rw [ze_out hc86], by omega, by omega, rfl, by omega⟩ | exact ⟨0, D9 (340 * j + d), by rw [ze_out hc57], by rw [ze_in hc86, hgj]; rfl, by omega, by omega, rfl, by omega⟩ | exact ⟨0, 0, by rw [ze_out hc57], by rw [ze_out hc86], by omega, by omega, rfl, by omega⟩
              obtain ⟨x9, y9, hx1, hy1, hx2, hy2, hs9, hxy⟩ := hyy
              refine lv_aload_n hx hb dMo_increase_109 rfl (lv_at hl 4 rfl) ?_
              refine va_get (D := (dC, dI)) (ci := 7) (v := .ref (mo + 12)) (C := "MacroReckonerModel") (T := TMo) (N := 23) hx hb hts inMo hown hK hP 0 rfl rfl 21 (by decide) (hts _ wt4_79) (fun _ h9 => h9) rfl dMo_increase_110 ?_
              refine lv_sipush (v := iI 340) hx hb dMo_increase_113 (by decide) ?_
              refine lv_iload_n hx hb dMo_increase_116 rfl (lv_at hl 5 rfl) ?_
              refine iv_imul hx hb dMo_increase_117 ?_
              refine lv_iload hx hb dMo_increase_118 (lv_at hl 1 rfl) ?_
              refine iv_iadd hx hb dMo_increase_120 ?_
              refine lv_iload hx hb dMo_increase_121 (lv_at hl 0 rfl) ?_
              refine lv_bipush (v := iI 10) hx hb dMo_increase_123 (by decide) ?_
              refine iv_irem hx hb dMo_increase_125 (by omega) ⟨by omega, by omega⟩ (by omega) ⟨by decide, by decide⟩ ?_
              refine iv_iast (v := sm % 10) hx hb hK hP hD hS 12 0 rfl rfl (by decide) dMo_increase_126 (by omega) (by omega) (fun H locs hP hD hS => ?_)
              have hP : va_P (dC, dI) vwCl (wMo dA mo ft lf hg kk tx pn tk fm tO tl mI mT mS mC mL mB mF mU mX mP mK (up D9 ((340 * i) + d) (sm % 10)) mZ []) H := hP
              have hD : va_D A (wMo dA mo ft lf hg kk tx pn tk fm tO tl mI mT mS mC mL mB mF mU mX mP mK (up D9 ((340 * i) + d) (sm % 10)) mZ []) := hD
              refine lv_iload hx hb dMo_increase_127 (lv_at hl 0 rfl) ?_
              refine lv_bipush (v := iI 10) hx hb dMo_increase_129 (by decide) ?_
              refine iv_idiv hx hb dMo_increase_131 (by omega) ⟨by omega, by omega⟩ (by omega) ⟨by decide, by decide⟩ ?_
              refine lv_istore_n (lv' := [(3, .int (iI (sm / 10))), (6, .int (iI sm)), (5, .int (iI d)), (4, .int (iI n9)), (0, .ref mo), (1, .int (iI i)), (2, .int (iI j))]) hx hb dMo_increase_132 rfl hl (by decide) rfl (fun ls hl => ?_)
              refine lv_iload hx hb dMo_increase_133 (lv_at hl 3 rfl) ?_
              refine lv_iload hx hb dMo_increase_135 (lv_at hl 2 rfl) ?_
              refine lv_iconst (v := iI 1) hx hb dMo_increase_137 rfl ?_
              refine iv_iadd hx hb dMo_increase_138 ?_
              refine iv_icmp_le (tgt := 147) hx hb dMo_increase_139 (by decide) ⟨by omega, by omega⟩ ⟨by omega, by omega⟩ (fun hc139 => ?_) (fun hc139 => ?_)
              · refine lv_iload hx hb dMo_increase_147 (lv_at hl 2 rfl) ?_
                refine lv_iconst (v := iI 1) hx hb dMo_increase_149 rfl ?_
                refine iv_iadd hx hb dMo_increase_150 ?_
                refine lv_istore (lv' := [(4, .int (iI (d + 1))), (3, .int (iI (sm / 10))), (6, .int (iI sm)), (5, .int (iI d)), (0, .ref mo), (1, .int (iI i)), (2, .int (iI j))]) hx hb dMo_increase_151 hl (by decide) rfl (fun ls hl => ?_)
                refine lv_iinc (k := 3) (lv' := [(5, .int (iI (d + 1))), (4, .int (iI (d + 1))), (3, .int (iI (sm / 10))), (6, .int (iI sm)), (0, .ref mo), (1, .int (iI i)), (2, .int (iI j))]) (v := iI (d + 1)) hx hb dMo_increase_153 hl rfl (iI_add _ _).symm (by decide) rfl (fun ls hl => ?_)
                refine lv_goto (tgt := 37) hx hb dMo_increase_156 (by decide) ?_
                exact ih37 (up D9 ((340 * i) + d) (sm % 10)) (sm / 10) (d + 1) (d + 1) H locs ls (by omega) (by exact mi_s hJ hx1 hy1 hx2 hy2 hs9) (by omega) hP hD hS (lv_sub hl [0, 1, 2, 4, 5, 6] rfl)
              · refine lv_iload hx hb dMo_increase_142 (lv_at hl 3 rfl) ?_
                refine lv_goto (tgt := 151) hx hb dMo_increase_144 (by decide) ?_
                refine lv_istore (lv' := [(4, .int (iI n9)), (3, .int (iI (sm / 10))), (6, .int (iI sm)), (5, .int (iI d)), (0, .ref mo), (1, .int (iI i)), (2, .int (iI j))]) hx hb dMo_increase_151 hl (by decide) rfl (fun ls hl => ?_)
                refine lv_iinc (k := 3) (lv' := [(5, .int (iI (d + 1))), (4, .int (iI n9)), (3, .int (iI (sm / 10))), (6, .int (iI sm)), (0, .ref mo), (1, .int (iI i)), (2, .int (iI j))]) (v := iI (d + 1)) hx hb dMo_increase_153 hl rfl (iI_add _ _).symm (by decide) rfl (fun ls hl => ?_)
                refine lv_goto (tgt := 37) hx hb dMo_increase_156 (by decide) ?_
                exact ih37 (up D9 ((340 * i) + d) (sm % 10)) (sm / 10) n9 (d + 1) H locs ls (by omega) (by exact mi_s hJ hx1 hy1 hx2 hy2 hs9) (by omega) hP hD hS (lv_sub hl [0, 1, 2, 4, 5, 6] rfl)
          · have hgi := hJ.2.2.2.2.1 (340 * i + d) (by omega)
            have hdi := hM.1.2.1 d (by omega) (by omega)
            refine lv_aload_n hx hb dMo_increase_60 rfl (lv_at hl 3 rfl) ?_
            refine va_get (D := (dC, dI)) (ci := 7) (v := .ref (mo + 12)) (C := "MacroReckonerModel") (T := TMo) (N := 23) hx hb hts inMo hown hK hP 0 rfl rfl 21 (by decide) (hts _ wt4_79) (fun _ h9 => h9) rfl dMo_increase_61 ?_
            refine lv_sipush (v := iI 340) hx hb dMo_increase_64 (by decide) ?_
            refine lv_iload_n hx hb dMo_increase_67 rfl (lv_at hl 4 rfl) ?_
            refine iv_imul hx hb dMo_increase_68 ?_
            refine lv_iload hx hb dMo_increase_69 (lv_at hl 0 rfl) ?_
            refine iv_iadd hx hb dMo_increase_71 ?_
            refine iv_iald hx hb hK hP 12 0 rfl rfl (by decide) dMo_increase_72 (by omega) (by omega) ?_
            refine lv_goto (tgt := 77) hx hb dMo_increase_73 (by decide) ?_
            refine iv_iadd hx hb dMo_increase_77 ?_
            refine lv_iload hx hb dMo_increase_78 (lv_at hl 0 rfl) ?_
            refine lv_aload_n hx hb dMo_increase_80 rfl (lv_at hl 3 rfl) ?_
            refine va_get (D := (dC, dI)) (ci := 7) (v := .ref (mo + 13)) (C := "MacroReckonerModel") (T := TMo) (N := 23) hx hb hts inMo hown hK hP 0 rfl rfl 22 (by decide) (hts _ wt4_80) (fun _ h9 => h9) rfl dMo_increase_81 ?_
            refine lv_iload_n hx hb dMo_increase_84 rfl (lv_at hl 5 rfl) ?_
            refine iv_iald hx hb hK hP 13 0 rfl rfl (by decide) dMo_increase_85 (by omega) (by omega) ?_
            refine iv_icmp_ge (tgt := 105) hx hb dMo_increase_86 (by decide) ⟨by omega, by omega⟩ ⟨by omega, by omega⟩ (fun hc86 => ?_) (fun hc86 => ?_)
            · refine lv_iconst (v := iI 0) hx hb dMo_increase_105 rfl ?_
              refine iv_iadd hx hb dMo_increase_106 ?_
              refine lv_istore (lv' := [(6, .int (iI ((cy + (D9 ((340 * i) + d))) + 0))), (5, .int (iI d)), (4, .int (iI n9)), (3, .int (iI cy)), (0, .ref mo), (1, .int (iI i)), (2, .int (iI j))]) hx hb dMo_increase_107 hl (by decide) rfl (fun ls hl => ?_)
              obtain ⟨sm, e_sm⟩ : ∃ z : Int, z = (cy + (D9 ((340 * i) + d))) + 0 := ⟨_, rfl⟩
              have hl : lv_has ls 7 [(6, .int (iI sm)), (5, .int (iI d)), (4, .int (iI n9)), (3, .int (iI cy)), (0, .ref mo), (1, .int (iI i)), (2, .int (iI j))] := by rw [e_sm]; exact hl
              have hyy : ∃ x y, x = ze (sh mD (340 * i)) (mZ i) d ∧ y = ze (sh mD (340 * j)) (mZ j) d ∧ (0 ≤ x ∧ x ≤ 9) ∧ (0 ≤ y ∧ y ≤ 9) ∧ sm = cy + x + y ∧ ((x = 0 ∧ y = 0) ∨ d < mZ i ∨ d < mZ j) := by rw [e_sm]; first | exact ⟨D9 (340 * i + d), D9 (340 * j + d), by rw [ze_in hc57, hgi]; rfl, by rw [ze_in hc86, hgj]; rfl, by omega, by omega, rfl, by omega⟩ | exact ⟨D9 (340 * i + d), 0, by rw [ze_in hc57, hgi]; rfl, by rw [ze_out hc86], by omega, by omega, rfl, by omega⟩ | exact ⟨0, D9 (340 * j + d), by rw [ze_out hc57], by rw [ze_in hc86, hgj]; rfl, by omega, by omega, rfl, by omega⟩ | exact ⟨0, 0, by rw [ze_out hc57], by rw [ze_out hc86], by omega, by omega, rfl, by omega⟩
              obtain ⟨x9, y9, hx1, hy1, hx2, hy2, hs9, hxy⟩ := hyy
              refine lv_aload_n hx hb dMo_increase_109 rfl (lv_at hl 4 rfl) ?_
              refine va_get (D := (dC, dI)) (ci := 7) (v := .ref (mo + 12)) (C := "MacroReckonerModel") (T := TMo) (N := 23) hx hb hts inMo hown hK hP 0 rfl rfl 21 (by decide) (hts _ wt4_79) (fun _ h9 => h9) rfl dMo_increase_110 ?_
              refine lv_sipush (v := iI 340) hx hb dMo_increase_113 (by decide) ?_
              refine lv_iload_n hx hb dMo_increase_116 rfl (lv_at hl 5 rfl) ?_
              refine iv_imul hx hb dMo_increase_117 ?_
              refine lv_iload hx hb dMo_increase_118 (lv_at hl 1 rfl) ?_
              refine iv_iadd hx hb dMo_increase_120 ?_
              refine lv_iload hx hb dMo_increase_121 (lv_at hl 0 rfl) ?_
              refine lv_bipush (v := iI 10) hx hb dMo_increase_123 (by decide) ?_
              refine iv_irem hx hb dMo_increase_125 (by omega) ⟨by omega, by omega⟩ (by omega) ⟨by decide, by decide⟩ ?_
              refine iv_iast (v := sm % 10) hx hb hK hP hD hS 12 0 rfl rfl (by decide) dMo_increase_126 (by omega) (by omega) (fun H locs hP hD hS => ?_)
              have hP : va_P (dC, dI) vwCl (wMo dA mo ft lf hg kk tx pn tk fm tO tl mI mT mS mC mL mB mF mU mX mP mK (up D9 ((340 * i) + d) (sm % 10)) mZ []) H := hP
              have hD : va_D A (wMo dA mo ft lf hg kk tx pn tk fm tO tl mI mT mS mC mL mB mF mU mX mP mK (up D9 ((340 * i) + d) (sm % 10)) mZ []) := hD
              refine lv_iload hx hb dMo_increase_127 (lv_at hl 0 rfl) ?_
              refine lv_bipush (v := iI 10) hx hb dMo_increase_129 (by decide) ?_
              refine iv_idiv hx hb dMo_increase_131 (by omega) ⟨by omega, by omega⟩ (by omega) ⟨by decide, by decide⟩ ?_
              refine lv_istore_n (lv' := [(3, .int (iI (sm / 10))), (6, .int (iI sm)), (5, .int (iI d)), (4, .int (iI n9)), (0, .ref mo), (1, .int (iI i)), (2, .int (iI j))]) hx hb dMo_increase_132 rfl hl (by decide) rfl (fun ls hl => ?_)
              refine lv_iload hx hb dMo_increase_133 (lv_at hl 3 rfl) ?_
              refine lv_iload hx hb dMo_increase_135 (lv_at hl 2 rfl) ?_
              refine lv_iconst (v := iI 1) hx hb dMo_increase_137 rfl ?_
              refine iv_iadd hx hb dMo_increase_138 ?_
              refine iv_icmp_le (tgt := 147) hx hb dMo_increase_139 (by decide) ⟨by omega, by omega⟩ ⟨by omega, by omega⟩ (fun hc139 => ?_) (fun hc139 => ?_)
              · refine lv_iload hx hb dMo_increase_147 (lv_at hl 2 rfl) ?_
                refine lv_iconst (v := iI 1) hx hb dMo_increase_149 rfl ?_
                refine iv_iadd hx hb dMo_increase_150 ?_
                refine lv_istore (lv' := [(4, .int (iI (d + 1))), (3, .int (iI (sm / 10))), (6, .int (iI sm)), (5, .int (iI d)), (0, .ref mo), (1, .int (iI i)), (2, .int (iI j))]) hx hb dMo_increase_151 hl (by decide) rfl (fun ls hl => ?_)
                refine lv_iinc (k := 3) (lv' := [(5, .int (iI (d + 1))), (4, .int (iI (d + 1))), (3, .int (iI (sm / 10))), (6, .int (iI sm)), (0, .ref mo), (1, .int (iI i)), (2, .int (iI j))]) (v := iI (d + 1)) hx hb dMo_increase_153 hl rfl (iI_add _ _).symm (by decide) rfl (fun ls hl => ?_)
                refine lv_goto (tgt := 37) hx hb dMo_increase_156 (by decide) ?_
                exact ih37 (up D9 ((340 * i) + d) (sm % 10)) (sm / 10) (d + 1) (d + 1) H locs ls (by omega) (by exact mi_s hJ hx1 hy1 hx2 hy2 hs9) (by omega) hP hD hS (lv_sub hl [0, 1, 2, 4, 5, 6] rfl)
              · refine lv_iload hx hb dMo_increase_142 (lv_at hl 3 rfl) ?_
                refine lv_goto (tgt := 151) hx hb dMo_increase_144 (by decide) ?_
                refine lv_istore (lv' := [(4, .int (iI n9)), (3, .int (iI (sm / 10))), (6, .int (iI sm)), (5, .int (iI d)), (0, .ref mo), (1, .int (iI i)), (2, .int (iI j))]) hx hb dMo_increase_151 hl (by decide) rfl (fun ls hl => ?_)
                refine lv_iinc (k := 3) (lv' := [(5, .int (iI (d + 1))), (4, .int (iI n9)), (3, .int (iI (sm / 10))), (6, .int (iI sm)), (0, .ref mo), (1, .int (iI i)), (2, .int (iI j))]) (v := iI (d + 1)) hx hb dMo_increase_153 hl rfl (iI_add _ _).symm (by decide) rfl (fun ls hl => ?_)
                refine lv_goto (tgt := 37) hx hb dMo_increase_156 (by decide) ?_
                exact ih37 (up D9 ((340 * i) + d) (sm % 10)) (sm / 10) n9 (d + 1) H locs ls (by omega) (by exact mi_s hJ hx1 hy1 hx2 hy2 hs9) (by omega) hP hD hS (lv_sub hl [0, 1, 2, 4, 5, 6] rfl)
            · have hgj := hJ.2.2.2.2.1 (340 * j + d) (by omega)
              have hdj := hM2.1.2.1 d (by omega) (by omega)
              refine lv_aload_n hx hb dMo_increase_89 rfl (lv_at hl 3 rfl) ?_
              refine va_get (D := (dC, dI)) (ci := 7) (v := .ref (mo + 12)) (C := "MacroReckonerModel") (T := TMo) (N := 23) hx hb hts inMo hown hK hP 0 rfl rfl 21 (by decide) (hts _ wt4_79) (fun _ h9 => h9) rfl dMo_increase_90 ?_
              refine lv_sipush (v := iI 340) hx hb dMo_increase_93 (by decide) ?_
              refine lv_iload_n hx hb dMo_increase_96 rfl (lv_at hl 5 rfl) ?_
              refine iv_imul hx hb dMo_increase_97 ?_
              refine lv_iload hx hb dMo_increase_98 (lv_at hl 0 rfl) ?_
              refine iv_iadd hx hb dMo_increase_100 ?_
              refine iv_iald hx hb hK hP 12 0 rfl rfl (by decide) dMo_increase_101 (by omega) (by omega) ?_
              refine lv_goto (tgt := 106) hx hb dMo_increase_102 (by decide) ?_
              refine iv_iadd hx hb dMo_increase_106 ?_
              refine lv_istore (lv' := [(6, .int (iI ((cy + (D9 ((340 * i) + d))) + (D9 ((340 * j) + d))))), (5, .int (iI d)), (4, .int (iI n9)), (3, .int (iI cy)), (0, .ref mo), (1, .int (iI i)), (2, .int (iI j))]) hx hb dMo_increase_107 hl (by decide) rfl (fun ls hl => ?_)
              obtain ⟨sm, e_sm⟩ : ∃ z : Int, z = (cy + (D9 ((340 * i) + d))) + (D9 ((340 * j) + d)) := ⟨_, rfl⟩
              have hl : lv_has ls 7 [(6, .int (iI sm)), (5, .int (iI d)), (4, .int (iI n9)), (3, .int (iI cy)), (0, .ref mo), (1, .int (iI i)), (2, .int (iI j))] := by rw [e_sm]; exact hl
              have hyy : ∃ x y, x = ze (sh mD (340 * i)) (mZ i) d ∧ y = ze (sh mD (340 * j)) (mZ j) d ∧ (0 ≤ x ∧ x ≤ 9) ∧ (0 ≤ y ∧ y ≤ 9) ∧ sm = cy + x + y ∧ ((x = 0 ∧ y = 0) ∨ d < mZ i ∨ d < mZ j) := by rw [e_sm]; first | exact ⟨D9 (340 * i + d), D9 (340 * j + d), by rw [ze_in hc57, hgi]; rfl, by rw [ze_in hc86, hgj]; rfl, by omega, by omega, rfl, by omega⟩ | exact ⟨D9 (340 * i + d), 0, by rw [ze_in hc57, hgi]; rfl, by rw [ze_out hc86], by omega, by omega, rfl, by omega⟩ | exact ⟨0, D9 (340 * j + d), by rw [ze_out hc57], by rw [ze_in hc86, hgj]; rfl, by omega, by omega, rfl, by omega⟩ | exact ⟨0, 0, by rw [ze_out hc57], by rw [ze_out hc86], by omega, by omega, rfl, by omega⟩
              obtain ⟨x9, y9, hx1, hy1, hx2, hy2, hs9, hxy⟩ := hyy
              refine lv_aload_n hx hb dMo_increase_109 rfl (lv_at hl 4 rfl) ?_
              refine va_get (D := (dC, dI)) (ci := 7) (v := .ref (mo + 12)) (C := "MacroReckonerModel") (T := TMo) (N := 23) hx hb hts inMo hown hK hP 0 rfl rfl 21 (by decide) (hts _ wt4_79) (fun _ h9 => h9) rfl dMo_increase_110 ?_
              refine lv_sipush (v := iI 340) hx hb dMo_increase_113 (by decide) ?_
              refine lv_iload_n hx hb dMo_increase_116 rfl (lv_at hl 5 rfl) ?_
              refine iv_imul hx hb dMo_increase_117 ?_
              refine lv_iload hx hb dMo_increase_118 (lv_at hl 1 rfl) ?_
              refine iv_iadd hx hb dMo_increase_120 ?_
              refine lv_iload hx hb dMo_increase_121 (lv_at hl 0 rfl) ?_
              refine lv_bipush (v := iI 10) hx hb dMo_increase_123 (by decide) ?_
              refine iv_irem hx hb dMo_increase_125 (by omega) ⟨by omega, by omega⟩ (by omega) ⟨by decide, by decide⟩ ?_
              refine iv_iast (v := sm % 10) hx hb hK hP hD hS 12 0 rfl rfl (by decide) dMo_increase_126 (by omega) (by omega) (fun H locs hP hD hS => ?_)
              have hP : va_P (dC, dI) vwCl (wMo dA mo ft lf hg kk tx pn tk fm tO tl mI mT mS mC mL mB mF mU mX mP mK (up D9 ((340 * i) + d) (sm % 10)) mZ []) H := hP
              have hD : va_D A (wMo dA mo ft lf hg kk tx pn tk fm tO tl mI mT mS mC mL mB mF mU mX mP mK (up D9 ((340 * i) + d) (sm % 10)) mZ []) := hD
              refine lv_iload hx hb dMo_increase_127 (lv_at hl 0 rfl) ?_
              refine lv_bipush (v := iI 10) hx hb dMo_increase_129 (by decide) ?_
              refine iv_idiv hx hb dMo_increase_131 (by omega) ⟨by omega, by omega⟩ (by omega) ⟨by decide, by decide⟩ ?_
              refine lv_istore_n (lv' := [(3, .int (iI (sm / 10))), (6, .int (iI sm)), (5, .int (iI d)), (4, .int (iI n9)), (0, .ref mo), (1, .int (iI i)), (2, .int (iI j))]) hx hb dMo_increase_132 rfl hl (by decide) rfl (fun ls hl => ?_)
              refine lv_iload hx hb dMo_increase_133 (lv_at hl 3 rfl) ?_
              refine lv_iload hx hb dMo_increase_135 (lv_at hl 2 rfl) ?_
              refine lv_iconst (v := iI 1) hx hb dMo_increase_137 rfl ?_
              refine iv_iadd hx hb dMo_increase_138 ?_
              refine iv_icmp_le (tgt := 147) hx hb dMo_increase_139 (by decide) ⟨by omega, by omega⟩ ⟨by omega, by omega⟩ (fun hc139 => ?_) (fun hc139 => ?_)
              · refine lv_iload hx hb dMo_increase_147 (lv_at hl 2 rfl) ?_
                refine lv_iconst (v := iI 1) hx hb dMo_increase_149 rfl ?_
                refine iv_iadd hx hb dMo_increase_150 ?_
                refine lv_istore (lv' := [(4, .int (iI (d + 1))), (3, .int (iI (sm / 10))), (6, .int (iI sm)), (5, .int (iI d)), (0, .ref mo), (1, .int (iI i)), (2, .int (iI j))]) hx hb dMo_increase_151 hl (by decide) rfl (fun ls hl => ?_)
                refine lv_iinc (k := 3) (lv' := [(5, .int (iI (d + 1))), (4, .int (iI (d + 1))), (3, .int (iI (sm / 10))), (6, .int (iI sm)), (0, .ref mo), (1, .int (iI i)), (2, .int (iI j))]) (v := iI (d + 1)) hx hb dMo_increase_153 hl rfl (iI_add _ _).symm (by decide) rfl (fun ls hl => ?_)
                refine lv_goto (tgt := 37) hx hb dMo_increase_156 (by decide) ?_
                exact ih37 (up D9 ((340 * i) + d) (sm % 10)) (sm / 10) (d + 1) (d + 1) H locs ls (by omega) (by exact mi_s hJ hx1 hy1 hx2 hy2 hs9) (by omega) hP hD hS (lv_sub hl [0, 1, 2, 4, 5, 6] rfl)
              · refine lv_iload hx hb dMo_increase_142 (lv_at hl 3 rfl) ?_
                refine lv_goto (tgt := 151) hx hb dMo_increase_144 (by decide) ?_
                refine lv_istore (lv' := [(4, .int (iI n9)), (3, .int (iI (sm / 10))), (6, .int (iI sm)), (5, .int (iI d)), (0, .ref mo), (1, .int (iI i)), (2, .int (iI j))]) hx hb dMo_increase_151 hl (by decide) rfl (fun ls hl => ?_)
                refine lv_iinc (k := 3) (lv' := [(5, .int (iI (d + 1))), (4, .int (iI n9)), (3, .int (iI (sm / 10))), (6, .int (iI sm)), (0, .ref mo), (1, .int (iI i)), (2, .int (iI j))]) (v := iI (d + 1)) hx hb dMo_increase_153 hl rfl (iI_add _ _).symm (by decide) rfl (fun ls hl => ?_)
                refine lv_goto (tgt := 37) hx hb dMo_increase_156 (by decide) ?_
                exact ih37 (up D9 ((340 * i) + d) (sm % 10)) (sm / 10) n9 (d + 1) H locs ls (by omega) (by exact mi_s hJ hx1 hy1 hx2 hy2 hs9) (by omega) hP hD hS (lv_sub hl [0, 1, 2, 4, 5, 6] rfl)
        · refine lv_iload_n hx hb dMo_increase_44 rfl (lv_at hl 2 rfl) ?_
          refine iv_if_le (tgt := 159) hx hb dMo_increase_45 (by decide) ⟨by omega, by omega⟩ (fun hc45 => ?_) (fun hc45 => ?_)
          · refine lv_aload_n hx hb dMo_increase_159 rfl (lv_at hl 3 rfl) ?_
            refine va_get (D := (dC, dI)) (ci := 7) (v := .ref (mo + 13)) (C := "MacroReckonerModel") (T := TMo) (N := 23) hx hb hts inMo hown hK hP 0 rfl rfl 22 (by decide) (hts _ wt4_80) (fun _ h9 => h9) rfl dMo_increase_160 ?_
            refine lv_iload_n hx hb dMo_increase_163 rfl (lv_at hl 4 rfl) ?_
            refine lv_iload hx hb dMo_increase_164 (lv_at hl 1 rfl) ?_
            refine iv_iast (v := n9) hx hb hK hP hD hS 13 0 rfl rfl (by decide) dMo_increase_166 (by omega) (by omega) (fun H locs hP hD hS => ?_)
            have hP : va_P (dC, dI) vwCl (wMo dA mo ft lf hg kk tx pn tk fm tO tl mI mT mS mC mL mB mF mU mX mP mK D9 (up mZ i n9) []) H := hP
            have hD : va_D A (wMo dA mo ft lf hg kk tx pn tk fm tO tl mI mT mS mC mL mB mF mU mX mP mK D9 (up mZ i n9) []) := hD
            refine lv_aload_n hx hb dMo_increase_167 rfl (lv_at hl 3 rfl) ?_
            refine lv_iload_n hx hb dMo_increase_168 rfl (lv_at hl 4 rfl) ?_
            refine cv_v (va_runV (C := "MacroReckonerModel") (As := [.int (iI i)]) (rest := []) ⟨hx, hb, hml, hown, hts⟩ (cMo_trim l dC dI dA mo ft lf hg kk tx pn tk fm tO tl mI mT mS mC mL mB mF mU mX mP mK D9 ((up mZ i n9)) i (N + M) (by omega) (by have e : n9 = d := (by omega); rw [e]; exact mi_e hM hM2 hJ (by omega) (by omega) (by omega) (by omega)) H.size) (cwV 1 hts (gdV wt4_191 wt4_193 ws4_2 wt1_8 wt4_194) rfl rfl rfl ⟨rfl, by decide, by decide, by decide +kernel⟩ ⟨by decide, by decide⟩) (preV (q := ("MacroReckonerModel", TMo, 23)) hK hP hD hS hA XN_ok trivial [0, 1, 2, 3, 4, 5, 6, 7, 8, 9, 10, 11, 12, 13] rfl rfl 0 rfl rfl) rfl rfl hl.1 rfl (lv_room (Nat.le_of_ble_eq_true rfl)) dMo_increase_169 ⟨Nat.zero_le _, Nat.zero_le _⟩) hP hD hS hA [0, 1, 2, 3, 4, 5, 6, 7, 8, 9, 10, 11, 12, 13] [] rfl (fun v_ => wMo dA mo ft lf hg kk tx pn tk fm tO tl mI mT mS mC mL mB mF mU mX mP mK D9 v_ []) (fun _ => rfl) ([] : va_W) rfl (fun _ => rfl) [mo, mo + 1, mo + 2, mo + 3, mo + 4, mo + 5, mo + 6, mo + 7, mo + 8, mo + 9, mo + 10, mo + 11, mo + 12, mo + 13] rfl (fun _ => rfl) (fun _ => rfl) (fun u_ H locs hq169 hP hD hS => ?_)
            obtain ⟨Z7, rfl⟩ : ∃ z, z = u_ := ⟨_, rfl⟩
            have hP : va_P (dC, dI) vwCl (wMo dA mo ft lf hg kk tx pn tk fm tO tl mI mT mS mC mL mB mF mU mX mP mK D9 Z7 []) H := hP
            have hD : va_D A (wMo dA mo ft lf hg kk tx pn tk fm tO tl mI mT mS mC mL mB mF mU mX mP mK D9 Z7 []) := hD
            have hq169 : MR D9 Z7 i (N + M) ∧ ∀ j, j ≠ i → Z7 j = ((up mZ i n9)) j := hq169
            exact rt_v hx hb hr hlocks hK hS dMo_increase_172 (D9, Z7) hP hD (show MR D9 Z7 i (N + M) ∧ others mD mZ D9 Z7 i from by exact ⟨hq169.1, fun p x => hJ.2.2.2.2.1 p (by omega), fun t x => by rw [hq169.2 t x, up_n x]⟩)
          · have hdn : d ≤ nz := by omega
            refine lv_iload_n hx hb dMo_increase_48 rfl (lv_at hl 2 rfl) ?_
            refine lv_iload hx hb dMo_increase_49 (lv_at hl 0 rfl) ?_
            refine lv_aload_n hx hb dMo_increase_51 rfl (lv_at hl 3 rfl) ?_
            refine va_get (D := (dC, dI)) (ci := 7) (v := .ref (mo + 13)) (C := "MacroReckonerModel") (T := TMo) (N := 23) hx hb hts inMo hown hK hP 0 rfl rfl 22 (by decide) (hts _ wt4_80) (fun _ h9 => h9) rfl dMo_increase_52 ?_
            refine lv_iload_n hx hb dMo_increase_55 rfl (lv_at hl 4 rfl) ?_
            refine iv_iald hx hb hK hP 13 0 rfl rfl (by decide) dMo_increase_56 (by omega) (by omega) ?_
            refine iv_icmp_ge (tgt := 76) hx hb dMo_increase_57 (by decide) ⟨by omega, by omega⟩ ⟨by omega, by omega⟩ (fun hc57 => ?_) (fun hc57 => ?_)
            · refine lv_iconst (v := iI 0) hx hb dMo_increase_76 rfl ?_
              refine iv_iadd hx hb dMo_increase_77 ?_
              refine lv_iload hx hb dMo_increase_78 (lv_at hl 0 rfl) ?_
              refine lv_aload_n hx hb dMo_increase_80 rfl (lv_at hl 3 rfl) ?_
              refine va_get (D := (dC, dI)) (ci := 7) (v := .ref (mo + 13)) (C := "MacroReckonerModel") (T := TMo) (N := 23) hx hb hts inMo hown hK hP 0 rfl rfl 22 (by decide) (hts _ wt4_80) (fun _ h9 => h9) rfl dMo_increase_81 ?_
              refine lv_iload_n hx hb dMo_increase_84 rfl (lv_at hl 5 rfl) ?_
              refine iv_iald hx hb hK hP 13 0 rfl rfl (by decide) dMo_increase_85 (by omega) (by omega) ?_
              refine iv_icmp_ge (tgt := 105) hx hb dMo_increase_86 (by decide) ⟨by omega, by omega⟩ ⟨by omega, by omega⟩ (fun hc86 => ?_) (fun hc86 => ?_)
              · refine lv_iconst (v := iI 0) hx hb dMo_increase_105 rfl ?_
                refine iv_iadd hx hb dMo_increase_106 ?_
                refine lv_istore (lv' := [(6, .int (iI ((cy + 0) + 0))), (5, .int (iI d)), (4, .int (iI n9)), (3, .int (iI cy)), (0, .ref mo), (1, .int (iI i)), (2, .int (iI j))]) hx hb dMo_increase_107 hl (by decide) rfl (fun ls hl => ?_)
                obtain ⟨sm, e_sm⟩ : ∃ z : Int, z = (cy + 0) + 0 := ⟨_, rfl⟩
                have hl : lv_has ls 7 [(6, .int (iI sm)), (5, .int (iI d)), (4, .int (iI n9)), (3, .int (iI cy)), (0, .ref mo), (1, .int (iI i)), (2, .int (iI j))] := by rw [e_sm]; exact hl
                have hyy : ∃ x y, x = ze (sh mD (340 * i)) (mZ i) d ∧ y = ze (sh mD (340 * j)) (mZ j) d ∧ (0 ≤ x ∧ x ≤ 9) ∧ (0 ≤ y ∧ y ≤ 9) ∧ sm = cy + x + y ∧ ((x = 0 ∧ y = 0) ∨ d < mZ i ∨ d < mZ j) := by rw [e_sm]; first | exact ⟨D9 (340 * i + d), D9 (340 * j + d), by rw [ze_in hc57, hgi]; rfl, by rw [ze_in hc86, hgj]; rfl, by omega, by omega, rfl, by omega⟩ | exact ⟨D9 (340 * i + d), 0, by rw [ze_in hc57, hgi]; rfl, by rw [ze_out hc86], by omega, by omega, rfl, by omega⟩ | exact ⟨0, D9 (340 * j + d), by rw [ze_out hc57], by rw [ze_in hc86, hgj]; rfl, by omega, by omega, rfl, by omega⟩ | exact ⟨0, 0, by rw [ze_out hc57], by rw [ze_out hc86], by omega, by omega, rfl, by omega⟩
                obtain ⟨x9, y9, hx1, hy1, hx2, hy2, hs9, hxy⟩ := hyy
                refine lv_aload_n hx hb dMo_increase_109 rfl (lv_at hl 4 rfl) ?_
                refine va_get (D := (dC, dI)) (ci := 7) (v := .ref (mo + 12)) (C := "MacroReckonerModel") (T := TMo) (N := 23) hx hb hts inMo hown hK hP 0 rfl rfl 21 (by decide) (hts _ wt4_79) (fun _ h9 => h9) rfl dMo_increase_110 ?_
                refine lv_sipush (v := iI 340) hx hb dMo_increase_113 (by decide) ?_
                refine lv_iload_n hx hb dMo_increase_116 rfl (lv_at hl 5 rfl) ?_
                refine iv_imul hx hb dMo_increase_117 ?_
                refine lv_iload hx hb dMo_increase_118 (lv_at hl 1 rfl) ?_
                refine iv_iadd hx hb dMo_increase_120 ?_
                refine lv_iload hx hb dMo_increase_121 (lv_at hl 0 rfl) ?_
                refine lv_bipush (v := iI 10) hx hb dMo_increase_123 (by decide) ?_
                refine iv_irem hx hb dMo_increase_125 (by omega) ⟨by omega, by omega⟩ (by omega) ⟨by decide, by decide⟩ ?_
                refine iv_iast (v := sm % 10) hx hb hK hP hD hS 12 0 rfl rfl (by decide) dMo_increase_126 (by omega) (by omega) (fun H locs hP hD hS => ?_)
                have hP : va_P (dC, dI) vwCl (wMo dA mo ft lf hg kk tx pn tk fm tO tl mI mT mS mC mL mB mF mU mX mP mK (up D9 ((340 * i) + d) (sm % 10)) mZ []) H := hP
                have hD : va_D A (wMo dA mo ft lf hg kk tx pn tk fm tO tl mI mT mS mC mL mB mF mU mX mP mK (up D9 ((340 * i) + d) (sm % 10)) mZ []) := hD
                refine lv_iload hx hb dMo_increase_127 (lv_at hl 0 rfl) ?_
                refine lv_bipush (v := iI 10) hx hb dMo_increase_129 (by decide) ?_
                refine iv_idiv hx hb dMo_increase_131 (by omega) ⟨by omega, by omega⟩ (by omega) ⟨by decide, by decide⟩ ?_
                refine lv_istore_n (lv' := [(3, .int (iI (sm / 10))), (6, .int (iI sm)), (5, .int (iI d)), (4, .int (iI n9)), (0, .ref mo), (1, .int (iI i)), (2, .int (iI j))]) hx hb dMo_increase_132 rfl hl (by decide) rfl (fun ls hl => ?_)
                refine lv_iload hx hb dMo_increase_133 (lv_at hl 3 rfl) ?_
                refine lv_iload hx hb dMo_increase_135 (lv_at hl 2 rfl) ?_
                refine lv_iconst (v := iI 1) hx hb dMo_increase_137 rfl ?_
                refine iv_iadd hx hb dMo_increase_138 ?_
                refine iv_icmp_le (tgt := 147) hx hb dMo_increase_139 (by decide) ⟨by omega, by omega⟩ ⟨by omega, by omega⟩ (fun hc139 => ?_) (fun hc139 => ?_)
                · refine lv_iload hx hb dMo_increase_147 (lv_at hl 2 rfl) ?_
                  refine lv_iconst (v := iI 1) hx hb dMo_increase_149 rfl ?_
                  refine iv_iadd hx hb dMo_increase_150 ?_
                  refine lv_istore (lv' := [(4, .int (iI (d + 1))), (3, .int (iI (sm / 10))), (6, .int (iI sm)), (5, .int (iI d)), (0, .ref mo), (1, .int (iI i)), (2, .int (iI j))]) hx hb dMo_increase_151 hl (by decide) rfl (fun ls hl => ?_)
                  refine lv_iinc (k := 3) (lv' := [(5, .int (iI (d + 1))), (4, .int (iI (d + 1))), (3, .int (iI (sm / 10))), (6, .int (iI sm)), (0, .ref mo), (1, .int (iI i)), (2, .int (iI j))]) (v := iI (d + 1)) hx hb dMo_increase_153 hl rfl (iI_add _ _).symm (by decide) rfl (fun ls hl => ?_)
                  refine lv_goto (tgt := 37) hx hb dMo_increase_156 (by decide) ?_
                  exact ih37 (up D9 ((340 * i) + d) (sm % 10)) (sm / 10) (d + 1) (d + 1) H locs ls (by omega) (by exact mi_s hJ hx1 hy1 hx2 hy2 hs9) (by omega) hP hD hS (lv_sub hl [0, 1, 2, 4, 5, 6] rfl)
                · refine lv_iload hx hb dMo_increase_142 (lv_at hl 3 rfl) ?_
                  refine lv_goto (tgt := 151) hx hb dMo_increase_144 (by decide) ?_
                  refine lv_istore (lv' := [(4, .int (iI n9)), (3, .int (iI (sm / 10))), (6, .int (iI sm)), (5, .int (iI d)), (0, .ref mo), (1, .int (iI i)), (2, .int (iI j))]) hx hb dMo_increase_151 hl (by decide) rfl (fun ls hl => ?_)
                  refine lv_iinc (k := 3) (lv' := [(5, .int (iI (d + 1))), (4, .int (iI n9)), (3, .int (iI (sm / 10))), (6, .int (iI sm)), (0, .ref mo), (1, .int (iI i)), (2, .int (iI j))]) (v := iI (d + 1)) hx hb dMo_increase_153 hl rfl (iI_add _ _).symm (by decide) rfl (fun ls hl => ?_)
                  refine lv_goto (tgt := 37) hx hb dMo_increase_156 (by decide) ?_
                  exact ih37 (up D9 ((340 * i) + d) (sm % 10)) (sm / 10) n9 (d + 1) H locs ls (by omega) (by exact mi_s hJ hx1 hy1 hx2 hy2 hs9) (by omega) hP hD hS (lv_sub hl [0, 1, 2, 4, 5, 6] rfl)
              · have hgj := hJ.2.2.2.2.1 (340 * j + d) (by omega)
                have hdj := hM2.1.2.1 d (by omega) (by omega)
                refine lv_aload_n hx hb dMo_increase_89 rfl (lv_at hl 3 rfl) ?_
                refine va_get (D := (dC, dI)) (ci := 7) (v := .ref (mo + 12)) (C := "MacroReckonerModel") (T := TMo) (N := 23) hx hb hts inMo hown hK hP 0 rfl rfl 21 (by decide) (hts _ wt4_79) (fun _ h9 => h9) rfl dMo_increase_90 ?_
                refine lv_sipush (v := iI 340) hx hb dMo_increase_93 (by decide) ?_
                refine lv_iload_n hx hb dMo_increase_96 rfl (lv_at hl 5 rfl) ?_
                refine iv_imul hx hb dMo_increase_97 ?_
                refine lv_iload hx hb dMo_increase_98 (lv_at hl 0 rfl) ?_
                refine iv_iadd hx hb dMo_increase_100 ?_
                refine iv_iald hx hb hK hP 12 0 rfl rfl (by decide) dMo_increase_101 (by omega) (by omega) ?_
                refine lv_goto (tgt := 106) hx hb dMo_increase_102 (by decide) ?_
                refine iv_iadd hx hb dMo_increase_106 ?_
                refine lv_istore (lv' := [(6, .int (iI ((cy + 0) + (D9 ((340 * j) + d))))), (5, .int (iI d)), (4, .int (iI n9)), (3, .int (iI cy)), (0, .ref mo), (1, .int (iI i)), (2, .int (iI j))]) hx hb dMo_increase_107 hl (by decide) rfl (fun ls hl => ?_)
                obtain ⟨sm, e_sm⟩ : ∃ z : Int, z = (cy + 0) + (D9 ((340 * j) + d)) := ⟨_, rfl⟩
                have hl : lv_has ls 7 [(6, .int (iI sm)), (5, .int (iI d)), (4, .int (iI n9)), (3, .int (iI cy)), (0, .ref mo), (1, .int (iI i)), (2, .int (iI j))] := by rw [e_sm]; exact hl
                have hyy : ∃ x y, x = ze (sh mD (340 * i)) (mZ i) d ∧ y = ze (sh mD (340 * j)) (mZ j) d ∧ (0 ≤ x ∧ x ≤ 9) ∧ (0 ≤ y ∧ y ≤ 9) ∧ sm = cy + x + y ∧ ((x = 0 ∧ y = 0) ∨ d < mZ i ∨ d < mZ j) := by rw [e_sm]; first | exact ⟨D9 (340 * i + d), D9 (340 * j + d), by rw [ze_in hc57, hgi]; rfl, by rw [ze_in hc86, hgj]; rfl, by omega, by omega, rfl, by omega⟩ | exact ⟨D9 (340 * i + d), 0, by rw [ze_in hc57, hgi]; rfl, by rw [ze_out hc86], by omega, by omega, rfl, by omega⟩ | exact ⟨0, D9 (340 * j + d), by rw [ze_out hc57], by rw [ze_in hc86, hgj]; rfl, by omega, by omega, rfl, by omega⟩ | exact ⟨0, 0, by rw [ze_out hc57], by rw [ze_out hc86], by omega, by omega, rfl, by omega⟩
                obtain ⟨x9, y9, hx1, hy1, hx2, hy2, hs9, hxy⟩ := hyy
                refine lv_aload_n hx hb dMo_increase_109 rfl (lv_at hl 4 rfl) ?_
                refine va_get (D := (dC, dI)) (ci := 7) (v := .ref (mo + 12)) (C := "MacroReckonerModel") (T := TMo) (N := 23) hx hb hts inMo hown hK hP 0 rfl rfl 21 (by decide) (hts _ wt4_79) (fun _ h9 => h9) rfl dMo_increase_110 ?_
                refine lv_sipush (v := iI 340) hx hb dMo_increase_113 (by decide) ?_
                refine lv_iload_n hx hb dMo_increase_116 rfl (lv_at hl 5 rfl) ?_
                refine iv_imul hx hb dMo_increase_117 ?_
                refine lv_iload hx hb dMo_increase_118 (lv_at hl 1 rfl) ?_
                refine iv_iadd hx hb dMo_increase_120 ?_
                refine lv_iload hx hb dMo_increase_121 (lv_at hl 0 rfl) ?_
                refine lv_bipush (v := iI 10) hx hb dMo_increase_123 (by decide) ?_
                refine iv_irem hx hb dMo_increase_125 (by omega) ⟨by omega, by omega⟩ (by omega) ⟨by decide, by decide⟩ ?_
                refine iv_iast (v := sm % 10) hx hb hK hP hD hS 12 0 rfl rfl (by decide) dMo_increase_126 (by omega) (by omega) (fun H locs hP hD hS => ?_)
                have hP : va_P (dC, dI) vwCl (wMo dA mo ft lf hg kk tx pn tk fm tO tl mI mT mS mC mL mB mF mU mX mP mK (up D9 ((340 * i) + d) (sm % 10)) mZ []) H := hP
                have hD : va_D A (wMo dA mo ft lf hg kk tx pn tk fm tO tl mI mT mS mC mL mB mF mU mX mP mK (up D9 ((340 * i) + d) (sm % 10)) mZ []) := hD
                refine lv_iload hx hb dMo_increase_127 (lv_at hl 0 rfl) ?_
                refine lv_bipush (v := iI 10) hx hb dMo_increase_129 (by decide) ?_
                refine iv_idiv hx hb dMo_increase_131 (by omega) ⟨by omega, by omega⟩ (by omega) ⟨by decide, by decide⟩ ?_
                refine lv_istore_n (lv' := [(3, .int (iI (sm / 10))), (6, .int (iI sm)), (5, .int (iI d)), (4, .int (iI n9)), (0, .ref mo), (1, .int (iI i)), (2, .int (iI j))]) hx hb dMo_increase_132 rfl hl (by decide) rfl (fun ls hl => ?_)
                refine lv_iload hx hb dMo_increase_133 (lv_at hl 3 rfl) ?_
                refine lv_iload hx hb dMo_increase_135 (lv_at hl 2 rfl) ?_
                refine lv_iconst (v := iI 1) hx hb dMo_increase_137 rfl ?_
                refine iv_iadd hx hb dMo_increase_138 ?_
                refine iv_icmp_le (tgt := 147) hx hb dMo_increase_139 (by decide) ⟨by omega, by omega⟩ ⟨by omega, by omega⟩ (fun hc139 => ?_) (fun hc139 => ?_)
                · refine lv_iload hx hb dMo_increase_147 (lv_at hl 2 rfl) ?_
                  refine lv_iconst (v := iI 1) hx hb dMo_increase_149 rfl ?_
                  refine iv_iadd hx hb dMo_increase_150 ?_
                  refine lv_istore (lv' := [(4, .int (iI (d + 1))), (3, .int (iI (sm / 10))), (6, .int (iI sm)), (5, .int (iI d)), (0, .ref mo), (1, .int (iI i)), (2, .int (iI j))]) hx hb dMo_increase_151 hl (by decide) rfl (fun ls hl => ?_)
                  refine lv_iinc (k := 3) (lv' := [(5, .int (iI (d + 1))), (4, .int (iI (d + 1))), (3, .int (iI (sm / 10))), (6, .int (iI sm)), (0, .ref mo), (1, .int (iI i)), (2, .int (iI j))]) (v := iI (d + 1)) hx hb dMo_increase_153 hl rfl (iI_add _ _).symm (by decide) rfl (fun ls hl => ?_)
                  refine lv_goto (tgt := 37) hx hb dMo_increase_156 (by decide) ?_
                  exact ih37 (up D9 ((340 * i) + d) (sm % 10)) (sm / 10) (d + 1) (d + 1) H locs ls (by omega) (by exact mi_s hJ hx1 hy1 hx2 hy2 hs9) (by omega) hP hD hS (lv_sub hl [0, 1, 2, 4, 5, 6] rfl)
                · refine lv_iload hx hb dMo_increase_142 (lv_at hl 3 rfl) ?_
                  refine lv_goto (tgt := 151) hx hb dMo_increase_144 (by decide) ?_
                  refine lv_istore (lv' := [(4, .int (iI n9)), (3, .int (iI (sm / 10))), (6, .int (iI sm)), (5, .int (iI d)), (0, .ref mo), (1, .int (iI i)), (2, .int (iI j))]) hx hb dMo_increase_151 hl (by decide) rfl (fun ls hl => ?_)
                  refine lv_iinc (k := 3) (lv' := [(5, .int (iI (d + 1))), (4, .int (iI n9)), (3, .int (iI (sm / 10))), (6, .int (iI sm)), (0, .ref mo), (1, .int (iI i)), (2, .int (iI j))]) (v := iI (d + 1)) hx hb dMo_increase_153 hl rfl (iI_add _ _).symm (by decide) rfl (fun ls hl => ?_)
                  refine lv_goto (tgt := 37) hx hb dMo_increase_156 (by decide) ?_
                  exact ih37 (up D9 ((340 * i) + d) (sm % 10)) (sm / 10) n9 (d + 1) H locs ls (by omega) (by exact mi_s hJ hx1 hy1 hx2 hy2 hs9) (by omega) hP hD hS (lv_sub hl [0, 1, 2, 4, 5, 6] rfl)
            · have hgi := hJ.2.2.2.2.1 (340 * i + d) (by omega)
              have hdi := hM.1.2.1 d (by omega) (by omega)
              refine lv_aload_n hx hb dMo_increase_60 rfl (lv_at hl 3 rfl) ?_
              refine va_get (D := (dC, dI)) (ci := 7) (v := .ref (mo + 12)) (C := "MacroReckonerModel") (T := TMo) (N := 23) hx hb hts inMo hown hK hP 0 rfl rfl 21 (by decide) (hts _ wt4_79) (fun _ h9 => h9) rfl dMo_increase_61 ?_
              refine lv_sipush (v := iI 340) hx hb dMo_increase_64 (by decide) ?_
              refine lv_iload_n hx hb dMo_increase_67 rfl (lv_at hl 4 rfl) ?_
              refine iv_imul hx hb dMo_increase_68 ?_
              refine lv_iload hx hb dMo_increase_69 (lv_at hl 0 rfl) ?_
              refine iv_iadd hx hb dMo_increase_71 ?_
              refine iv_iald hx hb hK hP 12 0 rfl rfl (by decide) dMo_increase_72 (by omega) (by omega) ?_
              refine lv_goto (tgt := 77) hx hb dMo_increase_73 (by decide) ?_
              refine iv_iadd hx hb dMo_increase_77 ?_
              refine lv_iload hx hb dMo_increase_78 (lv_at hl 0 rfl) ?_
              refine lv_aload_n hx hb dMo_increase_80 rfl (lv_at hl 3 rfl) ?_
              refine va_get (D := (dC, dI)) (ci := 7) (v := .ref (mo + 13)) (C := "MacroReckonerModel") (T := TMo) (N := 23) hx hb hts inMo hown hK hP 0 rfl rfl 22 (by decide) (hts _ wt4_80) (fun _ h9 => h9) rfl dMo_increase_81 ?_
              refine lv_iload_n hx hb dMo_increase_84 rfl (lv_at hl 5 rfl) ?_
              refine iv_iald hx hb hK hP 13 0 rfl rfl (by decide) dMo_increase_85 (by omega) (by omega) ?_
              refine iv_icmp_ge (tgt := 105) hx hb dMo_increase_86 (by decide) ⟨by omega, by omega⟩ ⟨by omega, by omega⟩ (fun hc86 => ?_) (fun hc86 => ?_)
              · refine lv_iconst (v := iI 0) hx hb dMo_increase_105 rfl ?_
                refine iv_iadd hx hb dMo_increase_106 ?_
                refine lv_istore (lv' := [(6, .int (iI ((cy + (D9 ((340 * i) + d))) + 0))), (5, .int (iI d)), (4, .int (iI n9)), (3, .int (iI cy)), (0, .ref mo), (1, .int (iI i)), (2, .int (iI j))]) hx hb dMo_increase_107 hl (by decide) rfl (fun ls hl => ?_)
                obtain ⟨sm, e_sm⟩ : ∃ z : Int, z = (cy + (D9 ((340 * i) + d))) + 0 := ⟨_, rfl⟩
                have hl : lv_has ls 7 [(6, .int (iI sm)), (5, .int (iI d)), (4, .int (iI n9)), (3, .int (iI cy)), (0, .ref mo), (1, .int (iI i)), (2, .int (iI j))] := by rw [e_sm]; exact hl
                have hyy : ∃ x y, x = ze (sh mD (340 * i)) (mZ i) d ∧ y = ze (sh mD (340 * j)) (mZ j) d ∧ (0 ≤ x ∧ x ≤ 9) ∧ (0 ≤ y ∧ y ≤ 9) ∧ sm = cy + x + y ∧ ((x = 0 ∧ y = 0) ∨ d < mZ i ∨ d < mZ j) := by rw [e_sm]; first | exact ⟨D9 (340 * i + d), D9 (340 * j + d), by rw [ze_in hc57, hgi]; rfl, by rw [ze_in hc86, hgj]; rfl, by omega, by omega, rfl, by omega⟩ | exact ⟨D9 (340 * i + d), 0, by rw [ze_in hc57, hgi]; rfl, by rw [ze_out hc86], by omega, by omega, rfl, by omega⟩ | exact ⟨0, D9 (340 * j + d), by rw [ze_out hc57], by rw [ze_in hc86, hgj]; rfl, by omega, by omega, rfl, by omega⟩ | exact ⟨0, 0, by rw [ze_out hc57], by rw [ze_out hc86], by omega, by omega, rfl, by omega⟩
                obtain ⟨x9, y9, hx1, hy1, hx2, hy2, hs9, hxy⟩ := hyy
                refine lv_aload_n hx hb dMo_increase_109 rfl (lv_at hl 4 rfl) ?_
                refine va_get (D := (dC, dI)) (ci := 7) (v := .ref (mo + 12)) (C := "MacroReckonerModel") (T := TMo) (N := 23) hx hb hts inMo hown hK hP 0 rfl rfl 21 (by decide) (hts _ wt4_79) (fun _ h9 => h9) rfl dMo_increase_110 ?_
                refine lv_sipush (v := iI 340) hx hb dMo_increase_113 (by decide) ?_
                refine lv_iload_n hx hb dMo_increase_116 rfl (lv_at hl 5 rfl) ?_
                refine iv_imul hx hb dMo_increase_117 ?_
                refine lv_iload hx hb dMo_increase_118 (lv_at hl 1 rfl) ?_
                refine iv_iadd hx hb dMo_increase_120 ?_
                refine lv_iload hx hb dMo_increase_121 (lv_at hl 0 rfl) ?_
                refine lv_bipush (v := iI 10) hx hb dMo_increase_123 (by decide) ?_
                refine iv_irem hx hb dMo_increase_125 (by omega) ⟨by omega, by omega⟩ (by omega) ⟨by decide, by decide⟩ ?_
                refine iv_iast (v := sm % 10) hx hb hK hP hD hS 12 0 rfl rfl (by decide) dMo_increase_126 (by omega) (by omega) (fun H locs hP hD hS => ?_)
                have hP : va_P (dC, dI) vwCl (wMo dA mo ft lf hg kk tx pn tk fm tO tl mI mT mS mC mL mB mF mU mX mP mK (up D9 ((340 * i) + d) (sm % 10)) mZ []) H := hP
                have hD : va_D A (wMo dA mo ft lf hg kk tx pn tk fm tO tl mI mT mS mC mL mB mF mU mX mP mK (up D9 ((340 * i) + d) (sm % 10)) mZ []) := hD
                refine lv_iload hx hb dMo_increase_127 (lv_at hl 0 rfl) ?_
                refine lv_bipush (v := iI 10) hx hb dMo_increase_129 (by decide) ?_
                refine iv_idiv hx hb dMo_increase_131 (by omega) ⟨by omega, by omega⟩ (by omega) ⟨by decide, by decide⟩ ?_
                refine lv_istore_n (lv' := [(3, .int (iI (sm / 10))), (6, .int (iI sm)), (5, .int (iI d)), (4, .int (iI n9)), (0, .ref mo), (1, .int (iI i)), (2, .int (iI j))]) hx hb dMo_increase_132 rfl hl (by decide) rfl (fun ls hl => ?_)
                refine lv_iload hx hb dMo_increase_133 (lv_at hl 3 rfl) ?_
                refine lv_iload hx hb dMo_increase_135 (lv_at hl 2 rfl) ?_
                refine lv_iconst (v := iI 1) hx hb dMo_increase_137 rfl ?_
                refine iv_iadd hx hb dMo_increase_138 ?_
                refine iv_icmp_le (tgt := 147) hx hb dMo_increase_139 (by decide) ⟨by omega, by omega⟩ ⟨by omega, by omega⟩ (fun hc139 => ?_) (fun hc139 => ?_)
                · refine lv_iload hx hb dMo_increase_147 (lv_at hl 2 rfl) ?_
                  refine lv_iconst (v := iI 1) hx hb dMo_increase_149 rfl ?_
                  refine iv_iadd hx hb dMo_increase_150 ?_
                  refine lv_istore (lv' := [(4, .int (iI (d + 1))), (3, .int (iI (sm / 10))), (6, .int (iI sm)), (5, .int (iI d)), (0, .ref mo), (1, .int (iI i)), (2, .int (iI j))]) hx hb dMo_increase_151 hl (by decide) rfl (fun ls hl => ?_)
                  refine lv_iinc (k := 3) (lv' := [(5, .int (iI (d + 1))), (4, .int (iI (d + 1))), (3, .int (iI (sm / 10))), (6, .int (iI sm)), (0, .ref mo), (1, .int (iI i)), (2, .int (iI j))]) (v := iI (d + 1)) hx hb dMo_increase_153 hl rfl (iI_add _ _).symm (by decide) rfl (fun ls hl => ?_)
                  refine lv_goto (tgt := 37) hx hb dMo_increase_156 (by decide) ?_
                  exact ih37 (up D9 ((340 * i) + d) (sm % 10)) (sm / 10) (d + 1) (d + 1) H locs ls (by omega) (by exact mi_s hJ hx1 hy1 hx2 hy2 hs9) (by omega) hP hD hS (lv_sub hl [0, 1, 2, 4, 5, 6] rfl)
                · refine lv_iload hx hb dMo_increase_142 (lv_at hl 3 rfl) ?_
                  refine lv_goto (tgt := 151) hx hb dMo_increase_144 (by decide) ?_
                  refine lv_istore (lv' := [(4, .int (iI n9)), (3, .int (iI (sm / 10))), (6, .int (iI sm)), (5, .int (iI d)), (0, .ref mo), (1, .int (iI i)), (2, .int (iI j))]) hx hb dMo_increase_151 hl (by decide) rfl (fun ls hl => ?_)
                  refine lv_iinc (k := 3) (lv' := [(5, .int (iI (d + 1))), (4, .int (iI n9)), (3, .int (iI (sm / 10))), (6, .int (iI sm)), (0, .ref mo), (1, .int (iI i)), (2, .int (iI j))]) (v := iI (d + 1)) hx hb dMo_increase_153 hl rfl (iI_add _ _).symm (by decide) rfl (fun ls hl => ?_)
                  refine lv_goto (tgt := 37) hx hb dMo_increase_156 (by decide) ?_
                  exact ih37 (up D9 ((340 * i) + d) (sm % 10)) (sm / 10) n9 (d + 1) H locs ls (by omega) (by exact mi_s hJ hx1 hy1 hx2 hy2 hs9) (by omega) hP hD hS (lv_sub hl [0, 1, 2, 4, 5, 6] rfl)
              · have hgj := hJ.2.2.2.2.1 (340 * j + d) (by omega)
                have hdj := hM2.1.2.1 d (by omega) (by omega)
                refine lv_aload_n hx hb dMo_increase_89 rfl (lv_at hl 3 rfl) ?_
                refine va_get (D := (dC, dI)) (ci := 7) (v := .ref (mo + 12)) (C := "MacroReckonerModel") (T := TMo) (N := 23) hx hb hts inMo hown hK hP 0 rfl rfl 21 (by decide) (hts _ wt4_79) (fun _ h9 => h9) rfl dMo_increase_90 ?_
                refine lv_sipush (v := iI 340) hx hb dMo_increase_93 (by decide) ?_
                refine lv_iload_n hx hb dMo_increase_96 rfl (lv_at hl 5 rfl) ?_
                refine iv_imul hx hb dMo_increase_97 ?_
                refine lv_iload hx hb dMo_increase_98 (lv_at hl 0 rfl) ?_
                refine iv_iadd hx hb dMo_increase_100 ?_
                refine iv_iald hx hb hK hP 12 0 rfl rfl (by decide) dMo_increase_101 (by omega) (by omega) ?_
                refine lv_goto (tgt := 106) hx hb dMo_increase_102 (by decide) ?_
                refine iv_iadd hx hb dMo_increase_106 ?_
                refine lv_istore (lv' := [(6, .int (iI ((cy + (D9 ((340 * i) + d))) + (D9 ((340 * j) + d))))), (5, .int (iI d)), (4, .int (iI n9)), (3, .int (iI cy)), (0, .ref mo), (1, .int (iI i)), (2, .int (iI j))]) hx hb dMo_increase_107 hl (by decide) rfl (fun ls hl => ?_)
                obtain ⟨sm, e_sm⟩ : ∃ z : Int, z = (cy + (D9 ((340 * i) + d))) + (D9 ((340 * j) + d)) := ⟨_, rfl⟩
                have hl : lv_has ls 7 [(6, .int (iI sm)), (5, .int (iI d)), (4, .int (iI n9)), (3, .int (iI cy)), (0, .ref mo), (1, .int (iI i)), (2, .int (iI j))] := by rw [e_sm]; exact hl
                have hyy : ∃ x y, x = ze (sh mD (340 * i)) (mZ i) d ∧ y = ze (sh mD (340 * j)) (mZ j) d ∧ (0 ≤ x ∧ x ≤ 9) ∧ (0 ≤ y ∧ y ≤ 9) ∧ sm = cy + x + y ∧ ((x = 0 ∧ y = 0) ∨ d < mZ i ∨ d < mZ j) := by rw [e_sm]; first | exact ⟨D9 (340 * i + d), D9 (340 * j + d), by rw [ze_in hc57, hgi]; rfl, by rw [ze_in hc86, hgj]; rfl, by omega, by omega, rfl, by omega⟩ | exact ⟨D9 (340 * i + d), 0, by rw [ze_in hc57, hgi]; rfl, by rw [ze_out hc86], by omega, by omega, rfl, by omega⟩ | exact ⟨0, D9 (340 * j + d), by rw [ze_out hc57], by rw [ze_in hc86, hgj]; rfl, by omega, by omega, rfl, by omega⟩ | exact ⟨0, 0, by rw [ze_out hc57], by rw [ze_out hc86], by omega, by omega, rfl, by omega⟩
                obtain ⟨x9, y9, hx1, hy1, hx2, hy2, hs9, hxy⟩ := hyy
                refine lv_aload_n hx hb dMo_increase_109 rfl (lv_at hl 4 rfl) ?_
                refine va_get (D := (dC, dI)) (ci := 7) (v := .ref (mo + 12)) (C := "MacroReckonerModel") (T := TMo) (N := 23) hx hb hts inMo hown hK hP 0 rfl rfl 21 (by decide) (hts _ wt4_79) (fun _ h9 => h9) rfl dMo_increase_110 ?_
                refine lv_sipush (v := iI 340) hx hb dMo_increase_113 (by decide) ?_
                refine lv_iload_n hx hb dMo_increase_116 rfl (lv_at hl 5 rfl) ?_
                refine iv_imul hx hb dMo_increase_117 ?_
                refine lv_iload hx hb dMo_increase_118 (lv_at hl 1 rfl) ?_
                refine iv_iadd hx hb dMo_increase_120 ?_
                refine lv_iload hx hb dMo_increase_121 (lv_at hl 0 rfl) ?_
                refine lv_bipush (v := iI 10) hx hb dMo_increase_123 (by decide) ?_
                refine iv_irem hx hb dMo_increase_125 (by omega) ⟨by omega, by omega⟩ (by omega) ⟨by decide, by decide⟩ ?_
                refine iv_iast (v := sm % 10) hx hb hK hP hD hS 12 0 rfl rfl (by decide) dMo_increase_126 (by omega) (by omega) (fun H locs hP hD hS => ?_)
                have hP : va_P (dC, dI) vwCl (wMo dA mo ft lf hg kk tx pn tk fm tO tl mI mT mS mC mL mB mF mU mX mP mK (up D9 ((340 * i) + d) (sm % 10)) mZ []) H := hP
                have hD : va_D A (wMo dA mo ft lf hg kk tx pn tk fm tO tl mI mT mS mC mL mB mF mU mX mP mK (up D9 ((340 * i) + d) (sm % 10)) mZ []) := hD
                refine lv_iload hx hb dMo_increase_127 (lv_at hl 0 rfl) ?_
                refine lv_bipush (v := iI 10) hx hb dMo_increase_129 (by decide) ?_
                refine iv_idiv hx hb dMo_increase_131 (by omega) ⟨by omega, by omega⟩ (by omega) ⟨by decide, by decide⟩ ?_
                refine lv_istore_n (lv' := [(3, .int (iI (sm / 10))), (6, .int (iI sm)), (5, .int (iI d)), (4, .int (iI n9)), (0, .ref mo), (1, .int (iI i)), (2, .int (iI j))]) hx hb dMo_increase_132 rfl hl (by decide) rfl (fun ls hl => ?_)
                refine lv_iload hx hb dMo_increase_133 (lv_at hl 3 rfl) ?_
                refine lv_iload hx hb dMo_increase_135 (lv_at hl 2 rfl) ?_
                refine lv_iconst (v := iI 1) hx hb dMo_increase_137 rfl ?_
                refine iv_iadd hx hb dMo_increase_138 ?_
                refine iv_icmp_le (tgt := 147) hx hb dMo_increase_139 (by decide) ⟨by omega, by omega⟩ ⟨by omega, by omega⟩ (fun hc139 => ?_) (fun hc139 => ?_)
                · refine lv_iload hx hb dMo_increase_147 (lv_at hl 2 rfl) ?_
                  refine lv_iconst (v := iI 1) hx hb dMo_increase_149 rfl ?_
                  refine iv_iadd hx hb dMo_increase_150 ?_
                  refine lv_istore (lv' := [(4, .int (iI (d + 1))), (3, .int (iI (sm / 10))), (6, .int (iI sm)), (5, .int (iI d)), (0, .ref mo), (1, .int (iI i)), (2, .int (iI j))]) hx hb dMo_increase_151 hl (by decide) rfl (fun ls hl => ?_)
                  refine lv_iinc (k := 3) (lv' := [(5, .int (iI (d + 1))), (4, .int (iI (d + 1))), (3, .int (iI (sm / 10))), (6, .int (iI sm)), (0, .ref mo), (1, .int (iI i)), (2, .int (iI j))]) (v := iI (d + 1)) hx hb dMo_increase_153 hl rfl (iI_add _ _).symm (by decide) rfl (fun ls hl => ?_)
                  refine lv_goto (tgt := 37) hx hb dMo_increase_156 (by decide) ?_
                  exact ih37 (up D9 ((340 * i) + d) (sm % 10)) (sm / 10) (d + 1) (d + 1) H locs ls (by omega) (by exact mi_s hJ hx1 hy1 hx2 hy2 hs9) (by omega) hP hD hS (lv_sub hl [0, 1, 2, 4, 5, 6] rfl)
                · refine lv_iload hx hb dMo_increase_142 (lv_at hl 3 rfl) ?_
                  refine lv_goto (tgt := 151) hx hb dMo_increase_144 (by decide) ?_
                  refine lv_istore (lv' := [(4, .int (iI n9)), (3, .int (iI (sm / 10))), (6, .int (iI sm)), (5, .int (iI d)), (0, .ref mo), (1, .int (iI i)), (2, .int (iI j))]) hx hb dMo_increase_151 hl (by decide) rfl (fun ls hl => ?_)
                  refine lv_iinc (k := 3) (lv' := [(5, .int (iI (d + 1))), (4, .int (iI n9)), (3, .int (iI (sm / 10))), (6, .int (iI sm)), (0, .ref mo), (1, .int (iI i)), (2, .int (iI j))]) (v := iI (d + 1)) hx hb dMo_increase_153 hl rfl (iI_add _ _).symm (by decide) rfl (fun ls hl => ?_)
                  refine lv_goto (tgt := 37) hx hb dMo_increase_156 (by decide) ?_
                  exact ih37 (up D9 ((340 * i) + d) (sm % 10)) (sm / 10) n9 (d + 1) H locs ls (by omega) (by exact mi_s hJ hx1 hy1 hx2 hy2 hs9) (by omega) hP hD hS (lv_sub hl [0, 1, 2, 4, 5, 6] rfl)
    exact L37 _ mD 0 nz 0 H locs ls (by omega) (by exact mi_0) (Nat.lt_succ_self _) hP hD hS (lv_sub hl [0, 1, 2, 3, 4, 5] rfl)
