theorem dMo_multiply_0 : decode prog_9_method_12_code 0 = .ok (.iconst 0, 1) := by decide +kernel
theorem dMo_multiply_1 : decode prog_9_method_12_code 1 = .ok (.istore 4, 2) := by decide +kernel
theorem dMo_multiply_3 : decode prog_9_method_12_code 3 = .ok (.iload 4, 2) := by decide +kernel
theorem dMo_multiply_5 : decode prog_9_method_12_code 5 = .ok (.aload_n 0, 1) := by decide +kernel
theorem dMo_multiply_6 : decode prog_9_method_12_code 6 = .ok (.getfield 47, 3) := by decide +kernel
theorem dMo_multiply_9 : decode prog_9_method_12_code 9 = .ok (.iload_n 2, 1) := by decide +kernel
theorem dMo_multiply_10 : decode prog_9_method_12_code 10 = .ok (.iaload, 1) := by decide +kernel
theorem dMo_multiply_11 : decode prog_9_method_12_code 11 = .ok (.aload_n 0, 1) := by decide +kernel
theorem dMo_multiply_12 : decode prog_9_method_12_code 12 = .ok (.getfield 47, 3) := by decide +kernel
theorem dMo_multiply_15 : decode prog_9_method_12_code 15 = .ok (.iload_n 3, 1) := by decide +kernel
theorem dMo_multiply_16 : decode prog_9_method_12_code 16 = .ok (.iaload, 1) := by decide +kernel
theorem dMo_multiply_17 : decode prog_9_method_12_code 17 = .ok (.iadd, 1) := by decide +kernel
theorem dMo_multiply_18 : decode prog_9_method_12_code 18 = .ok (.if_icmp .ge 23, 3) := by decide +kernel
theorem dMo_multiply_21 : decode prog_9_method_12_code 21 = .ok (.aload_n 0, 1) := by decide +kernel
theorem dMo_multiply_22 : decode prog_9_method_12_code 22 = .ok (.getfield 44, 3) := by decide +kernel
theorem dMo_multiply_25 : decode prog_9_method_12_code 25 = .ok (.sipush 340, 3) := by decide +kernel
theorem dMo_multiply_28 : decode prog_9_method_12_code 28 = .ok (.iload_n 1, 1) := by decide +kernel
theorem dMo_multiply_29 : decode prog_9_method_12_code 29 = .ok (.imul, 1) := by decide +kernel
theorem dMo_multiply_30 : decode prog_9_method_12_code 30 = .ok (.iload 4, 2) := by decide +kernel
theorem dMo_multiply_32 : decode prog_9_method_12_code 32 = .ok (.iadd, 1) := by decide +kernel
theorem dMo_multiply_33 : decode prog_9_method_12_code 33 = .ok (.iconst 0, 1) := by decide +kernel
theorem dMo_multiply_34 : decode prog_9_method_12_code 34 = .ok (.iastore, 1) := by decide +kernel
theorem dMo_multiply_35 : decode prog_9_method_12_code 35 = .ok (.iinc 4 1, 3) := by decide +kernel
theorem dMo_multiply_38 : decode prog_9_method_12_code 38 = .ok (.goto (-35), 3) := by decide +kernel
theorem dMo_multiply_41 : decode prog_9_method_12_code 41 = .ok (.iconst 0, 1) := by decide +kernel
theorem dMo_multiply_42 : decode prog_9_method_12_code 42 = .ok (.istore 4, 2) := by decide +kernel
theorem dMo_multiply_44 : decode prog_9_method_12_code 44 = .ok (.iload 4, 2) := by decide +kernel
theorem dMo_multiply_46 : decode prog_9_method_12_code 46 = .ok (.aload_n 0, 1) := by decide +kernel
theorem dMo_multiply_47 : decode prog_9_method_12_code 47 = .ok (.getfield 47, 3) := by decide +kernel
theorem dMo_multiply_50 : decode prog_9_method_12_code 50 = .ok (.iload_n 2, 1) := by decide +kernel
theorem dMo_multiply_51 : decode prog_9_method_12_code 51 = .ok (.iaload, 1) := by decide +kernel
theorem dMo_multiply_52 : decode prog_9_method_12_code 52 = .ok (.if_icmp .ge 129, 3) := by decide +kernel
theorem dMo_multiply_55 : decode prog_9_method_12_code 55 = .ok (.iconst 0, 1) := by decide +kernel
theorem dMo_multiply_56 : decode prog_9_method_12_code 56 = .ok (.istore 5, 2) := by decide +kernel
theorem dMo_multiply_58 : decode prog_9_method_12_code 58 = .ok (.iconst 0, 1) := by decide +kernel
theorem dMo_multiply_59 : decode prog_9_method_12_code 59 = .ok (.istore 6, 2) := by decide +kernel
theorem dMo_multiply_61 : decode prog_9_method_12_code 61 = .ok (.iload 6, 2) := by decide +kernel
theorem dMo_multiply_63 : decode prog_9_method_12_code 63 = .ok (.aload_n 0, 1) := by decide +kernel
theorem dMo_multiply_64 : decode prog_9_method_12_code 64 = .ok (.getfield 47, 3) := by decide +kernel
theorem dMo_multiply_67 : decode prog_9_method_12_code 67 = .ok (.iload_n 3, 1) := by decide +kernel
theorem dMo_multiply_68 : decode prog_9_method_12_code 68 = .ok (.iaload, 1) := by decide +kernel
theorem dMo_multiply_69 : decode prog_9_method_12_code 69 = .ok (.if_icmp .lt 8, 3) := by decide +kernel
theorem dMo_multiply_72 : decode prog_9_method_12_code 72 = .ok (.iload 5, 2) := by decide +kernel
theorem dMo_multiply_74 : decode prog_9_method_12_code 74 = .ok (.ifCond .le 101, 3) := by decide +kernel
theorem dMo_multiply_77 : decode prog_9_method_12_code 77 = .ok (.aload_n 0, 1) := by decide +kernel
theorem dMo_multiply_78 : decode prog_9_method_12_code 78 = .ok (.getfield 44, 3) := by decide +kernel
theorem dMo_multiply_81 : decode prog_9_method_12_code 81 = .ok (.sipush 340, 3) := by decide +kernel
theorem dMo_multiply_84 : decode prog_9_method_12_code 84 = .ok (.iload_n 1, 1) := by decide +kernel
theorem dMo_multiply_85 : decode prog_9_method_12_code 85 = .ok (.imul, 1) := by decide +kernel
theorem dMo_multiply_86 : decode prog_9_method_12_code 86 = .ok (.iload 4, 2) := by decide +kernel
theorem dMo_multiply_88 : decode prog_9_method_12_code 88 = .ok (.iadd, 1) := by decide +kernel
theorem dMo_multiply_89 : decode prog_9_method_12_code 89 = .ok (.iload 6, 2) := by decide +kernel
theorem dMo_multiply_91 : decode prog_9_method_12_code 91 = .ok (.iadd, 1) := by decide +kernel
theorem dMo_multiply_92 : decode prog_9_method_12_code 92 = .ok (.iaload, 1) := by decide +kernel
theorem dMo_multiply_93 : decode prog_9_method_12_code 93 = .ok (.iload 5, 2) := by decide +kernel
theorem dMo_multiply_95 : decode prog_9_method_12_code 95 = .ok (.iadd, 1) := by decide +kernel
theorem dMo_multiply_96 : decode prog_9_method_12_code 96 = .ok (.iload 6, 2) := by decide +kernel
theorem dMo_multiply_98 : decode prog_9_method_12_code 98 = .ok (.aload_n 0, 1) := by decide +kernel
theorem dMo_multiply_99 : decode prog_9_method_12_code 99 = .ok (.getfield 47, 3) := by decide +kernel
theorem dMo_multiply_102 : decode prog_9_method_12_code 102 = .ok (.iload_n 3, 1) := by decide +kernel
theorem dMo_multiply_103 : decode prog_9_method_12_code 103 = .ok (.iaload, 1) := by decide +kernel
theorem dMo_multiply_104 : decode prog_9_method_12_code 104 = .ok (.if_icmp .ge 33, 3) := by decide +kernel
theorem dMo_multiply_107 : decode prog_9_method_12_code 107 = .ok (.aload_n 0, 1) := by decide +kernel
theorem dMo_multiply_108 : decode prog_9_method_12_code 108 = .ok (.getfield 44, 3) := by decide +kernel
theorem dMo_multiply_111 : decode prog_9_method_12_code 111 = .ok (.sipush 340, 3) := by decide +kernel
theorem dMo_multiply_114 : decode prog_9_method_12_code 114 = .ok (.iload_n 2, 1) := by decide +kernel
theorem dMo_multiply_115 : decode prog_9_method_12_code 115 = .ok (.imul, 1) := by decide +kernel
theorem dMo_multiply_116 : decode prog_9_method_12_code 116 = .ok (.iload 4, 2) := by decide +kernel
theorem dMo_multiply_118 : decode prog_9_method_12_code 118 = .ok (.iadd, 1) := by decide +kernel
theorem dMo_multiply_119 : decode prog_9_method_12_code 119 = .ok (.iaload, 1) := by decide +kernel
theorem dMo_multiply_120 : decode prog_9_method_12_code 120 = .ok (.aload_n 0, 1) := by decide +kernel
theorem dMo_multiply_121 : decode prog_9_method_12_code 121 = .ok (.getfield 44, 3) := by decide +kernel
theorem dMo_multiply_124 : decode prog_9_method_12_code 124 = .ok (.sipush 340, 3) := by decide +kernel
theorem dMo_multiply_127 : decode prog_9_method_12_code 127 = .ok (.iload_n 3, 1) := by decide +kernel
theorem dMo_multiply_128 : decode prog_9_method_12_code 128 = .ok (.imul, 1) := by decide +kernel
theorem dMo_multiply_129 : decode prog_9_method_12_code 129 = .ok (.iload 6, 2) := by decide +kernel
theorem dMo_multiply_131 : decode prog_9_method_12_code 131 = .ok (.iadd, 1) := by decide +kernel
theorem dMo_multiply_132 : decode prog_9_method_12_code 132 = .ok (.iaload, 1) := by decide +kernel
theorem dMo_multiply_133 : decode prog_9_method_12_code 133 = .ok (.imul, 1) := by decide +kernel
theorem dMo_multiply_134 : decode prog_9_method_12_code 134 = .ok (.goto 4, 3) := by decide +kernel
theorem dMo_multiply_137 : decode prog_9_method_12_code 137 = .ok (.iconst 0, 1) := by decide +kernel
theorem dMo_multiply_138 : decode prog_9_method_12_code 138 = .ok (.iadd, 1) := by decide +kernel
theorem dMo_multiply_139 : decode prog_9_method_12_code 139 = .ok (.istore 7, 2) := by decide +kernel
theorem dMo_multiply_141 : decode prog_9_method_12_code 141 = .ok (.aload_n 0, 1) := by decide +kernel
theorem dMo_multiply_142 : decode prog_9_method_12_code 142 = .ok (.getfield 44, 3) := by decide +kernel
theorem dMo_multiply_145 : decode prog_9_method_12_code 145 = .ok (.sipush 340, 3) := by decide +kernel
theorem dMo_multiply_148 : decode prog_9_method_12_code 148 = .ok (.iload_n 1, 1) := by decide +kernel
theorem dMo_multiply_149 : decode prog_9_method_12_code 149 = .ok (.imul, 1) := by decide +kernel
theorem dMo_multiply_150 : decode prog_9_method_12_code 150 = .ok (.iload 4, 2) := by decide +kernel
theorem dMo_multiply_152 : decode prog_9_method_12_code 152 = .ok (.iadd, 1) := by decide +kernel
theorem dMo_multiply_153 : decode prog_9_method_12_code 153 = .ok (.iload 6, 2) := by decide +kernel
theorem dMo_multiply_155 : decode prog_9_method_12_code 155 = .ok (.iadd, 1) := by decide +kernel
theorem dMo_multiply_156 : decode prog_9_method_12_code 156 = .ok (.iload 7, 2) := by decide +kernel
theorem dMo_multiply_158 : decode prog_9_method_12_code 158 = .ok (.bipush 10, 2) := by decide +kernel
theorem dMo_multiply_160 : decode prog_9_method_12_code 160 = .ok (.irem, 1) := by decide +kernel
theorem dMo_multiply_161 : decode prog_9_method_12_code 161 = .ok (.iastore, 1) := by decide +kernel
theorem dMo_multiply_162 : decode prog_9_method_12_code 162 = .ok (.iload 7, 2) := by decide +kernel
theorem dMo_multiply_164 : decode prog_9_method_12_code 164 = .ok (.bipush 10, 2) := by decide +kernel
theorem dMo_multiply_166 : decode prog_9_method_12_code 166 = .ok (.idiv, 1) := by decide +kernel
theorem dMo_multiply_167 : decode prog_9_method_12_code 167 = .ok (.istore 5, 2) := by decide +kernel
theorem dMo_multiply_169 : decode prog_9_method_12_code 169 = .ok (.iinc 6 1, 3) := by decide +kernel
theorem dMo_multiply_172 : decode prog_9_method_12_code 172 = .ok (.goto (-111), 3) := by decide +kernel
theorem dMo_multiply_175 : decode prog_9_method_12_code 175 = .ok (.iinc 4 1, 3) := by decide +kernel
theorem dMo_multiply_178 : decode prog_9_method_12_code 178 = .ok (.goto (-134), 3) := by decide +kernel
theorem dMo_multiply_181 : decode prog_9_method_12_code 181 = .ok (.aload_n 0, 1) := by decide +kernel
theorem dMo_multiply_182 : decode prog_9_method_12_code 182 = .ok (.getfield 47, 3) := by decide +kernel
theorem dMo_multiply_185 : decode prog_9_method_12_code 185 = .ok (.iload_n 1, 1) := by decide +kernel
theorem dMo_multiply_186 : decode prog_9_method_12_code 186 = .ok (.aload_n 0, 1) := by decide +kernel
theorem dMo_multiply_187 : decode prog_9_method_12_code 187 = .ok (.getfield 47, 3) := by decide +kernel
theorem dMo_multiply_190 : decode prog_9_method_12_code 190 = .ok (.iload_n 2, 1) := by decide +kernel
theorem dMo_multiply_191 : decode prog_9_method_12_code 191 = .ok (.iaload, 1) := by decide +kernel
theorem dMo_multiply_192 : decode prog_9_method_12_code 192 = .ok (.aload_n 0, 1) := by decide +kernel
theorem dMo_multiply_193 : decode prog_9_method_12_code 193 = .ok (.getfield 47, 3) := by decide +kernel
theorem dMo_multiply_196 : decode prog_9_method_12_code 196 = .ok (.iload_n 3, 1) := by decide +kernel
theorem dMo_multiply_197 : decode prog_9_method_12_code 197 = .ok (.iaload, 1) := by decide +kernel
theorem dMo_multiply_198 : decode prog_9_method_12_code 198 = .ok (.iadd, 1) := by decide +kernel
theorem dMo_multiply_199 : decode prog_9_method_12_code 199 = .ok (.iastore, 1) := by decide +kernel
theorem dMo_multiply_200 : decode prog_9_method_12_code 200 = .ok (.aload_n 0, 1) := by decide +kernel
theorem dMo_multiply_201 : decode prog_9_method_12_code 201 = .ok (.iload_n 1, 1) := by decide +kernel
theorem dMo_multiply_202 : decode prog_9_method_12_code 202 = .ok (.invokevirtual 54, 3) := by decide +kernel
theorem dMo_multiply_205 : decode prog_9_method_12_code 205 = .ok (.return_, 1) := by decide +kernel
abbrev qMo_multiply (dC : Nat → ClassId) (dI : Nat → Nat → Nat) (dA : Nat → ClassId) (mo : Nat) (ft : Int) (lf : Int) (hg : Int) (kk : Int) (tx : Int) (pn : Int) (tk : Int) (fm : Int) (tO : Int) (tl : Int) (mI : Int → Int) (mT : Int → Int) (mS : Int → Int) (mC : Int → Int) (mL : Int → Int) (mB : Int → Int) (mF : Int → Int) (mU : Int → Int) (mX : Int → Int) (mP : Int → Int) (mK : Int → Int) (mD : Int → Int) (mZ : Int → Int) (i : Int) (x : Int) (y : Int) (N : Int) (M : Int) (A : Nat → Prop) : Array Value → State → Outcome → State → Prop := QV (dC, dI) vwCl (tyA dA) (fun (v_ : (Int → Int) × (Int → Int)) => MR v_.1 v_.2 i (N * M) ∧ others mD mZ v_.1 v_.2 i) (fun (v_ : (Int → Int) × (Int → Int)) => wMo dA mo ft lf hg kk tx pn tk fm tO tl mI mT mS mC mL mB mF mU mX mP mK v_.1 v_.2 []) A
abbrev rmMo_multiply : Room := { frames := 1, cells := 0, slots := 0, locals := 21 }
set_option maxRecDepth 100000 in
set_option maxHeartbeats 1000000 in
theorem cMo_multiply (l : Launch) (dC : Nat → ClassId) (dI : Nat → Nat → Nat) (dA : Nat → ClassId) (mo : Nat) (ft : Int) (lf : Int) (hg : Int) (kk : Int) (tx : Int) (pn : Int) (tk : Int) (fm : Int) (tO : Int) (tl : Int) (mI : Int → Int) (mT : Int → Int) (mS : Int → Int) (mC : Int → Int) (mL : Int → Int) (mB : Int → Int) (mF : Int → Int) (mU : Int → Int) (mX : Int → Int) (mP : Int → Int) (mK : Int → Int) (mD : Int → Int) (mZ : Int → Int) (i : Int) (x : Int) (y : Int) (N : Int) (M : Int) (hi : 0 ≤ i ∧ i ≤ 4 ∧ 0 ≤ x ∧ x ≤ 4 ∧ 0 ≤ y ∧ y ≤ 4 ∧ i ≠ x ∧ i ≠ y) (hM : MR mD mZ x N) (hM2 : MR mD mZ y M) (hle : mZ x + mZ y ≤ 340) (sz : Nat) : Met l yMo_multiply wsMo_multiply rmMo_multiply (PC (dC, dI) vwCl (tyA dA) XN [.ref mo, .int (iI i), .int (iI x), .int (iI y)] (wMo dA mo ft lf hg kk tx pn tk fm tO tl mI mT mS mC mL mB mF mU mX mP mK mD mZ []) sz) (qMo_multiply dC dI dA mo ft lf hg kk tx pn tk fm tO tl mI mT mS mC mL mB mF mU mX mP mK mD mZ i x y N M (va_A (wMo dA mo ft lf hg kk tx pn tk fm tO tl mI mT mS mC mL mB mF mU mX mP mK mD mZ []) sz)) 0 0 (va_A (wMo dA mo ft lf hg kk tx pn tk fm tO tl mI mT mS mC mL mB mF mU mX mP mK mD mZ []) sz) := by
  refine met_of (cc := prog_9_method_12_code) (maxL := 8) (ret := none) (Qc := qMo_multiply dC dI dA mo ft lf hg kk tx pn tk fm tO tl mI mT mS mC mL mB mF mU mX mP mK mD mZ i x y N M) XN_ok (by decide) rfl (Nat.le_of_ble_eq_true rfl) ?_
  intro p e s m below meth c ls A hx hb hr hml hown hts hlocks hnm hK hP hD hA hX hS hl
  have hl : lv_has ls 8 [(0, .ref mo), (1, .int (iI i)), (2, .int (iI x)), (3, .int (iI y))] := hl
  have hown : s.vm.findClass "MacroReckonerModel" = some m.cls := hown
  obtain ⟨H, hH⟩ : ∃ H : Heap, H = s.heap := ⟨_, rfl⟩
  obtain ⟨locs, hlo⟩ : ∃ L : List Loc, L = [] := ⟨_, rfl⟩
  have hP : va_P (dC, dI) vwCl (wMo dA mo ft lf hg kk tx pn tk fm tO tl mI mT mS mC mL mB mF mU mX mP mK mD mZ []) H := hH ▸ hP
  have hS : va_S A s.heap H locs := by rw [hH, hlo]; exact hS
  suffices hgo : W p l e rmMo_multiply s m [.ref mo, .int (iI i), .int (iI x), .int (iI y)].toArray below meth c H locs 0 0 (MQ below (qMo_multiply dC dI dA mo ft lf hg kk tx pn tk fm tO tl mI mT mS mC mL mB mF mU mX mP mK mD mZ i x y N M A) [.ref mo, .int (iI i), .int (iI x), .int (iI y)].toArray s 0 0 A) (F0 m 0 ls []) by rw [hH, hlo] at hgo; exact hgo
  clear hH hlo
  have hz := hM.1.1
  have hz2 := hM2.1.1
  refine lv_iconst (v := iI 0) hx hb dMo_multiply_0 rfl ?_
  refine lv_istore (lv' := [(4, .int (iI 0)), (0, .ref mo), (1, .int (iI i)), (2, .int (iI x)), (3, .int (iI y))]) hx hb dMo_multiply_1 hl (by decide) rfl (fun ls hl => ?_)
  have L3 : ∀ (n : Nat) (D9 : Int → Int) (d : Int) (H : Heap) (locs : List Loc) (ls : Array Slot), (0 ≤ d ∧ d ≤ mZ x + mZ y) → (∀ t, 0 ≤ t → t < d → D9 (340 * i + t) = 0) → (∀ p, p < 340 * i ∨ 340 * i + 340 ≤ p → D9 p = mD p) → (mZ x + mZ y - d).toNat < n → va_P (dC, dI) vwCl (wMo dA mo ft lf hg kk tx pn tk fm tO tl mI mT mS mC mL mB mF mU mX mP mK D9 mZ []) H → va_D A (wMo dA mo ft lf hg kk tx pn tk fm tO tl mI mT mS mC mL mB mF mU mX mP mK D9 mZ []) → va_S A s.heap H locs → lv_has ls 8 [(4, .int (iI d)), (0, .ref mo), (1, .int (iI i)), (2, .int (iI x)), (3, .int (iI y))] → W p l e rmMo_multiply s m [.ref mo, .int (iI i), .int (iI x), .int (iI y)].toArray below meth c H locs 0 0 (MQ below (qMo_multiply dC dI dA mo ft lf hg kk tx pn tk fm tO tl mI mT mS mC mL mB mF mU mX mP mK mD mZ i x y N M A) [.ref mo, .int (iI i), .int (iI x), .int (iI y)].toArray s 0 0 A) (F0 m 3 ls []) := by
    intro n
    induction n with
    | zero => intro D9 d H locs ls hd h0 ho hn; omega
    | succ n ih =>
      intro D9 d H locs ls hd h0 ho hn hP hD hS hl
      have ih3 := ih
      refine lv_iload hx hb dMo_multiply_3 (lv_at hl 0 rfl) ?_
      refine lv_aload_n hx hb dMo_multiply_5 rfl (lv_at hl 1 rfl) ?_
      refine va_get (D := (dC, dI)) (ci := 7) (v := .ref (mo + 13)) (C := "MacroReckonerModel") (T := TMo) (N := 23) hx hb hts inMo hown hK hP 0 rfl rfl 22 (by decide) (hts _ wt4_80) (fun _ h9 => h9) rfl dMo_multiply_6 ?_
      refine lv_iload_n hx hb dMo_multiply_9 rfl (lv_at hl 3 rfl) ?_
      refine iv_iald hx hb hK hP 13 0 rfl rfl (by decide) dMo_multiply_10 (by omega) (by omega) ?_
      refine lv_aload_n hx hb dMo_multiply_11 rfl (lv_at hl 1 rfl) ?_
      refine va_get (D := (dC, dI)) (ci := 7) (v := .ref (mo + 13)) (C := "MacroReckonerModel") (T := TMo) (N := 23) hx hb hts inMo hown hK hP 0 rfl rfl 22 (by decide) (hts _ wt4_80) (fun _ h9 => h9) rfl dMo_multiply_12 ?_
      refine lv_iload_n hx hb dMo_multiply_15 rfl (lv_at hl 4 rfl) ?_
      refine iv_iald hx hb hK hP 13 0 rfl rfl (by decide) dMo_multiply_16 (by omega) (by omega) ?_
      refine iv_iadd hx hb dMo_multiply_17 ?_
      refine iv_icmp_ge (tgt := 41) hx hb dMo_multiply_18 (by decide) ⟨by omega, by omega⟩ ⟨by omega, by omega⟩ (fun hc18 => ?_) (fun hc18 => ?_)
      · refine lv_iconst (v := iI 0) hx hb dMo_multiply_41 rfl ?_
        refine lv_istore (lv' := [(4, .int (iI 0)), (0, .ref mo), (1, .int (iI i)), (2, .int (iI x)), (3, .int (iI y))]) hx hb dMo_multiply_42 hl (by decide) rfl (fun ls hl => ?_)
        have L44 : ∀ (n : Nat) (D8 : Int → Int) (d : Int) (H : Heap) (locs : List Loc) (ls : Array Slot), (d ≤ mZ x) → (mmJ mD i (sh mD (340 * x)) (sh mD (340 * y)) (mZ x + mZ y) (mZ y) M D8 d 0 0) → (mZ x - d).toNat < n → va_P (dC, dI) vwCl (wMo dA mo ft lf hg kk tx pn tk fm tO tl mI mT mS mC mL mB mF mU mX mP mK D8 mZ []) H → va_D A (wMo dA mo ft lf hg kk tx pn tk fm tO tl mI mT mS mC mL mB mF mU mX mP mK D8 mZ []) → va_S A s.heap H locs → lv_has ls 8 [(4, .int (iI d)), (0, .ref mo), (1, .int (iI i)), (2, .int (iI x)), (3, .int (iI y))] → W p l e rmMo_multiply s m [.ref mo, .int (iI i), .int (iI x), .int (iI y)].toArray below meth c H locs 0 0 (MQ below (qMo_multiply dC dI dA mo ft lf hg kk tx pn tk fm tO tl mI mT mS mC mL mB mF mU mX mP mK mD mZ i x y N M A) [.ref mo, .int (iI i), .int (iI x), .int (iI y)].toArray s 0 0 A) (F0 m 44 ls []) := by
          intro n
          induction n with
          | zero => intro D8 d H locs ls hd8 hJ0 hn; omega
          | succ n ih =>
            intro D8 d H locs ls hd8 hJ0 hn hP hD hS hl
            have hd0 := hJ0.1
            have ih44 := ih
            refine lv_iload hx hb dMo_multiply_44 (lv_at hl 0 rfl) ?_
            refine lv_aload_n hx hb dMo_multiply_46 rfl (lv_at hl 1 rfl) ?_
            refine va_get (D := (dC, dI)) (ci := 7) (v := .ref (mo + 13)) (C := "MacroReckonerModel") (T := TMo) (N := 23) hx hb hts inMo hown hK hP 0 rfl rfl 22 (by decide) (hts _ wt4_80) (fun _ h9 => h9) rfl dMo_multiply_47 ?_
            refine lv_iload_n hx hb dMo_multiply_50 rfl (lv_at hl 3 rfl) ?_
            refine iv_iald hx hb hK hP 13 0 rfl rfl (by decide) dMo_multiply_51 (by omega) (by omega) ?_
            refine iv_icmp_ge (tgt := 181) hx hb dMo_multiply_52 (by decide) ⟨by omega, by omega⟩ ⟨by omega, by omega⟩ (fun hc52 => ?_) (fun hc52 => ?_)
            · refine lv_aload_n hx hb dMo_multiply_181 rfl (lv_at hl 1 rfl) ?_
              refine va_get (D := (dC, dI)) (ci := 7) (v := .ref (mo + 13)) (C := "MacroReckonerModel") (T := TMo) (N := 23) hx hb hts inMo hown hK hP 0 rfl rfl 22 (by decide) (hts _ wt4_80) (fun _ h9 => h9) rfl dMo_multiply_182 ?_
              refine lv_iload_n hx hb dMo_multiply_185 rfl (lv_at hl 2 rfl) ?_
              refine lv_aload_n hx hb dMo_multiply_186 rfl (lv_at hl 1 rfl) ?_
              refine va_get (D := (dC, dI)) (ci := 7) (v := .ref (mo + 13)) (C := "MacroReckonerModel") (T := TMo) (N := 23) hx hb hts inMo hown hK hP 0 rfl rfl 22 (by decide) (hts _ wt4_80) (fun _ h9 => h9) rfl dMo_multiply_187 ?_
              refine lv_iload_n hx hb dMo_multiply_190 rfl (lv_at hl 3 rfl) ?_
              refine iv_iald hx hb hK hP 13 0 rfl rfl (by decide) dMo_multiply_191 (by omega) (by omega) ?_
              refine lv_aload_n hx hb dMo_multiply_192 rfl (lv_at hl 1 rfl) ?_
              refine va_get (D := (dC, dI)) (ci := 7) (v := .ref (mo + 13)) (C := "MacroReckonerModel") (T := TMo) (N := 23) hx hb hts inMo hown hK hP 0 rfl rfl 22 (by decide) (hts _ wt4_80) (fun _ h9 => h9) rfl dMo_multiply_193 ?_
              refine lv_iload_n hx hb dMo_multiply_196 rfl (lv_at hl 4 rfl) ?_
              refine iv_iald hx hb hK hP 13 0 rfl rfl (by decide) dMo_multiply_197 (by omega) (by omega) ?_
              refine iv_iadd hx hb dMo_multiply_198 ?_
              refine iv_iast (v := (mZ x) + (mZ y)) hx hb hK hP hD hS 13 0 rfl rfl (by decide) dMo_multiply_199 (by omega) (by omega) (fun H locs hP hD hS => ?_)
              have hP : va_P (dC, dI) vwCl (wMo dA mo ft lf hg kk tx pn tk fm tO tl mI mT mS mC mL mB mF mU mX mP mK D8 (up mZ i ((mZ x) + (mZ y))) []) H := hP
              have hD : va_D A (wMo dA mo ft lf hg kk tx pn tk fm tO tl mI mT mS mC mL mB mF mU mX mP mK D8 (up mZ i ((mZ x) + (mZ y))) []) := hD
              refine lv_aload_n hx hb dMo_multiply_200 rfl (lv_at hl 1 rfl) ?_
              refine lv_iload_n hx hb dMo_multiply_201 rfl (lv_at hl 2 rfl) ?_
              refine cv_v (va_runV (C := "MacroReckonerModel") (As := [.int (iI i)]) (rest := []) ⟨hx, hb, hml, hown, hts⟩ (cMo_trim l dC dI dA mo ft lf hg kk tx pn tk fm tO tl mI mT mS mC mL mB mF mU mX mP mK D8 ((up mZ i ((mZ x) + (mZ y)))) i (N * M) (by omega) (by have e : d = mZ x := (by omega); rw [e] at hJ0; exact mm_e hJ0 hM.1.2.2 (by omega)) H.size) (cwV 1 hts (gdV wt4_191 wt4_193 ws4_2 wt1_8 wt4_194) rfl rfl rfl ⟨rfl, by decide, by decide, by decide +kernel⟩ ⟨by decide, by decide⟩) (preV (q := ("MacroReckonerModel", TMo, 23)) hK hP hD hS hA XN_ok trivial [0, 1, 2, 3, 4, 5, 6, 7, 8, 9, 10, 11, 12, 13] rfl rfl 0 rfl rfl) rfl rfl hl.1 rfl (lv_room (Nat.le_of_ble_eq_true rfl)) dMo_multiply_202 ⟨Nat.zero_le _, Nat.zero_le _⟩) hP hD hS hA [0, 1, 2, 3, 4, 5, 6, 7, 8, 9, 10, 11, 12, 13] [] rfl (fun v_ => wMo dA mo ft lf hg kk tx pn tk fm tO tl mI mT mS mC mL mB mF mU mX mP mK D8 v_ []) (fun _ => rfl) ([] : va_W) rfl (fun _ => rfl) [mo, mo + 1, mo + 2, mo + 3, mo + 4, mo + 5, mo + 6, mo + 7, mo + 8, mo + 9, mo + 10, mo + 11, mo + 12, mo + 13] rfl (fun _ => rfl) (fun _ => rfl) (fun u_ H locs hq202 hP hD hS => ?_)
              obtain ⟨Z7, rfl⟩ : ∃ z, z = u_ := ⟨_, rfl⟩
              have hP : va_P (dC, dI) vwCl (wMo dA mo ft lf hg kk tx pn tk fm tO tl mI mT mS mC mL mB mF mU mX mP mK D8 Z7 []) H := hP
              have hD : va_D A (wMo dA mo ft lf hg kk tx pn tk fm tO tl mI mT mS mC mL mB mF mU mX mP mK D8 Z7 []) := hD
              have hq202 : MR D8 Z7 i (N * M) ∧ ∀ j, j ≠ i → Z7 j = ((up mZ i ((mZ x) + (mZ y)))) j := hq202
              exact rt_v hx hb hr hlocks hK hS dMo_multiply_205 (D8, Z7) hP hD (show MR D8 Z7 i (N * M) ∧ others mD mZ D8 Z7 i from by exact ⟨hq202.1, hJ0.2.2.2.2.2.2.1, fun t x => by rw [hq202.2 t x, up_n x]⟩)
            · refine lv_iconst (v := iI 0) hx hb dMo_multiply_55 rfl ?_
              refine lv_istore (lv' := [(5, .int (iI 0)), (4, .int (iI d)), (0, .ref mo), (1, .int (iI i)), (2, .int (iI x)), (3, .int (iI y))]) hx hb dMo_multiply_56 hl (by decide) rfl (fun ls hl => ?_)
              refine lv_iconst (v := iI 0) hx hb dMo_multiply_58 rfl ?_
              refine lv_istore (lv' := [(6, .int (iI 0)), (5, .int (iI 0)), (4, .int (iI d)), (0, .ref mo), (1, .int (iI i)), (2, .int (iI x)), (3, .int (iI y))]) hx hb dMo_multiply_59 hl (by decide) rfl (fun ls hl => ?_)
              have L61 : ∀ (n : Nat) (D7 : Int → Int) (cy : Int) (e9 : Int) (H : Heap) (locs : List Loc) (ls : Array Slot), (e9 ≤ mZ y + 1 ∧ (mZ y < e9 → cy = 0)) → (mmJ mD i (sh mD (340 * x)) (sh mD (340 * y)) (mZ x + mZ y) (mZ y) M D7 d e9 cy) → (mZ y + 2 - e9).toNat < n → va_P (dC, dI) vwCl (wMo dA mo ft lf hg kk tx pn tk fm tO tl mI mT mS mC mL mB mF mU mX mP mK D7 mZ []) H → va_D A (wMo dA mo ft lf hg kk tx pn tk fm tO tl mI mT mS mC mL mB mF mU mX mP mK D7 mZ []) → va_S A s.heap H locs → lv_has ls 8 [(6, .int (iI e9)), (5, .int (iI cy)), (4, .int (iI d)), (0, .ref mo), (1, .int (iI i)), (2, .int (iI x)), (3, .int (iI y))] → W p l e rmMo_multiply s m [.ref mo, .int (iI i), .int (iI x), .int (iI y)].toArray below meth c H locs 0 0 (MQ below (qMo_multiply dC dI dA mo ft lf hg kk tx pn tk fm tO tl mI mT mS mC mL mB mF mU mX mP mK mD mZ i x y N M A) [.ref mo, .int (iI i), .int (iI x), .int (iI y)].toArray s 0 0 A) (F0 m 61 ls []) := by
                intro n
                induction n with
                | zero => intro D7 cy e9 H locs ls he hJ hn; omega
                | succ n ih =>
                  intro D7 cy e9 H locs ls he hJ hn hP hD hS hl
                  have hj2 := hJ.2.1
                  have hj3 := hJ.2.2.1
                  have hj4 := hJ.2.2.2.1
                  have ih61 := ih
                  refine lv_iload hx hb dMo_multiply_61 (lv_at hl 0 rfl) ?_
                  refine lv_aload_n hx hb dMo_multiply_63 rfl (lv_at hl 3 rfl) ?_
                  refine va_get (D := (dC, dI)) (ci := 7) (v := .ref (mo + 13)) (C := "MacroReckonerModel") (T := TMo) (N := 23) hx hb hts inMo hown hK hP 0 rfl rfl 22 (by decide) (hts _ wt4_80) (fun _ h9 => h9) rfl dMo_multiply_64 ?_
                  refine lv_iload_n hx hb dMo_multiply_67 rfl (lv_at hl 6 rfl) ?_
                  refine iv_iald hx hb hK hP 13 0 rfl rfl (by decide) dMo_multiply_68 (by omega) (by omega) ?_
                  refine iv_icmp_lt (tgt := 77) hx hb dMo_multiply_69 (by decide) ⟨by omega, by omega⟩ ⟨by omega, by omega⟩ (fun hc69 => ?_) (fun hc69 => ?_)
                  · have hdx := hM.1.2.1 d (by omega) (by omega)
                    have hde := hJ.2.2.2.2.1 (d + e9) (by omega) (by omega)
                    rw [show 340 * i + (d + e9) = 340 * i + d + e9 by omega] at hde
                    refine lv_aload_n hx hb dMo_multiply_77 rfl (lv_at hl 3 rfl) ?_
                    refine va_get (D := (dC, dI)) (ci := 7) (v := .ref (mo + 12)) (C := "MacroReckonerModel") (T := TMo) (N := 23) hx hb hts inMo hown hK hP 0 rfl rfl 21 (by decide) (hts _ wt4_79) (fun _ h9 => h9) rfl dMo_multiply_78 ?_
                    refine lv_sipush (v := iI 340) hx hb dMo_multiply_81 (by decide) ?_
                    refine lv_iload_n hx hb dMo_multiply_84 rfl (lv_at hl 4 rfl) ?_
                    refine iv_imul hx hb dMo_multiply_85 ?_
                    refine lv_iload hx hb dMo_multiply_86 (lv_at hl 2 rfl) ?_
                    refine iv_iadd hx hb dMo_multiply_88 ?_
                    refine lv_iload hx hb dMo_multiply_89 (lv_at hl 0 rfl) ?_
                    refine iv_iadd hx hb dMo_multiply_91 ?_
                    refine iv_iald hx hb hK hP 12 0 rfl rfl (by decide) dMo_multiply_92 (by omega) (by omega) ?_
                    refine lv_iload hx hb dMo_multiply_93 (lv_at hl 1 rfl) ?_
                    refine iv_iadd hx hb dMo_multiply_95 ?_
                    refine lv_iload hx hb dMo_multiply_96 (lv_at hl 0 rfl) ?_
                    refine lv_aload_n hx hb dMo_multiply_98 rfl (lv_at hl 3 rfl) ?_
                    refine va_get (D := (dC, dI)) (ci := 7) (v := .ref (mo + 13)) (C := "MacroReckonerModel") (T := TMo) (N := 23) hx hb hts inMo hown hK hP 0 rfl rfl 22 (by decide) (hts _ wt4_80) (fun _ h9 => h9) rfl dMo_multiply_99 ?_
                    refine lv_iload_n hx hb dMo_multiply_102 rfl (lv_at hl 6 rfl) ?_
                    refine iv_iald hx hb hK hP 13 0 rfl rfl (by decide) dMo_multiply_103 (by omega) (by omega) ?_
                    refine iv_icmp_ge (tgt := 137) hx hb dMo_multiply_104 (by decide) ⟨by omega, by omega⟩ ⟨by omega, by omega⟩ (fun hc104 => ?_) (fun hc104 => ?_)
                    · refine lv_iconst (v := iI 0) hx hb dMo_multiply_137 rfl ?_
                      refine iv_iadd hx hb dMo_multiply_138 ?_
                      refine lv_istore (lv' := [(7, .int (iI (((D7 (((340 * i) + d) + e9)) + cy) + 0))), (6, .int (iI e9)), (5, .int (iI cy)), (4, .int (iI d)), (0, .ref mo), (1, .int (iI i)), (2, .int (iI x)), (3, .int (iI y))]) hx hb dMo_multiply_139 hl (by decide) rfl (fun ls hl => ?_)
                      obtain ⟨vv, e_vv⟩ : ∃ z : Int, z = ((D7 (((340 * i) + d) + e9)) + cy) + 0 := ⟨_, rfl⟩
                      have hl : lv_has ls 8 [(7, .int (iI vv)), (6, .int (iI e9)), (5, .int (iI cy)), (4, .int (iI d)), (0, .ref mo), (1, .int (iI i)), (2, .int (iI x)), (3, .int (iI y))] := by rw [e_vv]; exact hl
                      have hww : ∃ w, vv = D7 (340 * i + d + e9) + cy + w ∧ w = sh mD (340 * x) d * ze (sh mD (340 * y)) (mZ y) e9 ∧ 0 ≤ ze (sh mD (340 * y)) (mZ y) e9 ∧ ze (sh mD (340 * y)) (mZ y) e9 ≤ 9 ∧ (mZ y ≤ e9 → w = 0) := by rw [e_vv]; first | exact ⟨_, rfl, by rw [ze_in hc104, hgx, hgy]; rfl, by rw [ze_in hc104]; exact hdy.1, by rw [ze_in hc104]; exact hdy.2, fun q => by omega⟩ | exact ⟨0, rfl, by rw [ze_out hc104, Int.mul_zero], by rw [ze_out hc104]; omega, by rw [ze_out hc104]; omega, fun _ => rfl⟩
                      obtain ⟨w9, hw1, hw2, hw3, hw4, hw5⟩ := hww
                      obtain ⟨hS9, hv0, hv9⟩ := mm_s hJ (by omega) hle hdx ⟨hw3, hw4⟩ hw1 hw2
                      have hz0 : mZ y ≤ e9 → D7 (340 * i + d + e9) = 0 := fun q => (by rw [show 340 * i + d + e9 = 340 * i + (d + e9) by omega]; exact hJ.2.2.2.2.2.1 (d + e9) (by omega) (by omega) (by omega))
                      refine lv_aload_n hx hb dMo_multiply_141 rfl (lv_at hl 4 rfl) ?_
                      refine va_get (D := (dC, dI)) (ci := 7) (v := .ref (mo + 12)) (C := "MacroReckonerModel") (T := TMo) (N := 23) hx hb hts inMo hown hK hP 0 rfl rfl 21 (by decide) (hts _ wt4_79) (fun _ h9 => h9) rfl dMo_multiply_142 ?_
                      refine lv_sipush (v := iI 340) hx hb dMo_multiply_145 (by decide) ?_
                      refine lv_iload_n hx hb dMo_multiply_148 rfl (lv_at hl 5 rfl) ?_
                      refine iv_imul hx hb dMo_multiply_149 ?_
                      refine lv_iload hx hb dMo_multiply_150 (lv_at hl 3 rfl) ?_
                      refine iv_iadd hx hb dMo_multiply_152 ?_
                      refine lv_iload hx hb dMo_multiply_153 (lv_at hl 1 rfl) ?_
                      refine iv_iadd hx hb dMo_multiply_155 ?_
                      refine lv_iload hx hb dMo_multiply_156 (lv_at hl 0 rfl) ?_
                      refine lv_bipush (v := iI 10) hx hb dMo_multiply_158 (by decide) ?_
                      refine iv_irem hx hb dMo_multiply_160 (by omega) ⟨by omega, by omega⟩ (by omega) ⟨by decide, by decide⟩ ?_
                      refine iv_iast (v := vv % 10) hx hb hK hP hD hS 12 0 rfl rfl (by decide) dMo_multiply_161 (by omega) (by omega) (fun H locs hP hD hS => ?_)
                      have hP : va_P (dC, dI) vwCl (wMo dA mo ft lf hg kk tx pn tk fm tO tl mI mT mS mC mL mB mF mU mX mP mK (up D7 (((340 * i) + d) + e9) (vv % 10)) mZ []) H := hP
                      have hD : va_D A (wMo dA mo ft lf hg kk tx pn tk fm tO tl mI mT mS mC mL mB mF mU mX mP mK (up D7 (((340 * i) + d) + e9) (vv % 10)) mZ []) := hD
                      refine lv_iload hx hb dMo_multiply_162 (lv_at hl 0 rfl) ?_
                      refine lv_bipush (v := iI 10) hx hb dMo_multiply_164 (by decide) ?_
                      refine iv_idiv hx hb dMo_multiply_166 (by omega) ⟨by omega, by omega⟩ (by omega) ⟨by decide, by decide⟩ ?_
                      refine lv_istore (lv' := [(5, .int (iI (vv / 10))), (7, .int (iI vv)), (6, .int (iI e9)), (4, .int (iI d)), (0, .ref mo), (1, .int (iI i)), (2, .int (iI x)), (3, .int (iI y))]) hx hb dMo_multiply_167 hl (by decide) rfl (fun ls hl => ?_)
                      refine lv_iinc (k := 2) (lv' := [(6, .int (iI (e9 + 1))), (5, .int (iI (vv / 10))), (7, .int (iI vv)), (4, .int (iI d)), (0, .ref mo), (1, .int (iI i)), (2, .int (iI x)), (3, .int (iI y))]) (v := iI (e9 + 1)) hx hb dMo_multiply_169 hl rfl (iI_add _ _).symm (by decide) rfl (fun ls hl => ?_)
                      refine lv_goto (tgt := 61) hx hb dMo_multiply_172 (by decide) ?_
                      exact ih61 (up D7 (((340 * i) + d) + e9) (vv % 10)) (vv / 10) (e9 + 1) H locs ls (by omega) (by exact hS9) (by omega) hP hD hS (lv_sub hl [0, 1, 3, 4, 5, 6, 7] rfl)
                    · have hgx := hJ.2.2.2.2.2.2.1 (340 * x + d) (by omega)
                      have hgy := hJ.2.2.2.2.2.2.1 (340 * y + e9) (by omega)
                      have hdy := hM2.1.2.1 e9 (by omega) (by omega)
                      refine lv_aload_n hx hb dMo_multiply_107 rfl (lv_at hl 3 rfl) ?_
                      refine va_get (D := (dC, dI)) (ci := 7) (v := .ref (mo + 12)) (C := "MacroReckonerModel") (T := TMo) (N := 23) hx hb hts inMo hown hK hP 0 rfl rfl 21 (by decide) (hts _ wt4_79) (fun _ h9 => h9) rfl dMo_multiply_108 ?_
                      refine lv_sipush (v := iI 340) hx hb dMo_multiply_111 (by decide) ?_
                      refine lv_iload_n hx hb dMo_multiply_114 rfl (lv_at hl 5 rfl) ?_
                      refine iv_imul hx hb dMo_multiply_115 ?_
                      refine lv_iload hx hb dMo_multiply_116 (lv_at hl 2 rfl) ?_
                      refine iv_iadd hx hb dMo_multiply_118 ?_
                      refine iv_iald hx hb hK hP 12 0 rfl rfl (by decide) dMo_multiply_119 (by omega) (by omega) ?_
                      refine lv_aload_n hx hb dMo_multiply_120 rfl (lv_at hl 3 rfl) ?_
                      refine va_get (D := (dC, dI)) (ci := 7) (v := .ref (mo + 12)) (C := "MacroReckonerModel") (T := TMo) (N := 23) hx hb hts inMo hown hK hP 0 rfl rfl 21 (by decide) (hts _ wt4_79) (fun _ h9 => h9) rfl dMo_multiply_121 ?_
                      refine lv_sipush (v := iI 340) hx hb dMo_multiply_124 (by decide) ?_
                      refine lv_iload_n hx hb dMo_multiply_127 rfl (lv_at hl 6 rfl) ?_
                      refine iv_imul hx hb dMo_multiply_128 ?_
                      refine lv_iload hx hb dMo_multiply_129 (lv_at hl 0 rfl) ?_
                      refine iv_iadd hx hb dMo_multiply_131 ?_
                      refine iv_iald hx hb hK hP 12 0 rfl rfl (by decide) dMo_multiply_132 (by omega) (by omega) ?_
                      refine iv_imul hx hb dMo_multiply_133 ?_
                      refine lv_goto (tgt := 138) hx hb dMo_multiply_134 (by decide) ?_
                      refine iv_iadd hx hb dMo_multiply_138 ?_
                      refine lv_istore (lv' := [(7, .int (iI (((D7 (((340 * i) + d) + e9)) + cy) + ((D7 ((340 * x) + d)) * (D7 ((340 * y) + e9)))))), (6, .int (iI e9)), (5, .int (iI cy)), (4, .int (iI d)), (0, .ref mo), (1, .int (iI i)), (2, .int (iI x)), (3, .int (iI y))]) hx hb dMo_multiply_139 hl (by decide) rfl (fun ls hl => ?_)
                      obtain ⟨vv, e_vv⟩ : ∃ z : Int, z = ((D7 (((340 * i) + d) + e9)) + cy) + ((D7 ((340 * x) + d)) * (D7 ((340 * y) + e9))) := ⟨_, rfl⟩
                      have hl : lv_has ls 8 [(7, .int (iI vv)), (6, .int (iI e9)), (5, .int (iI cy)), (4, .int (iI d)), (0, .ref mo), (1, .int (iI i)), (2, .int (iI x)), (3, .int (iI y))] := by rw [e_vv]; exact hl
                      have hww : ∃ w, vv = D7 (340 * i + d + e9) + cy + w ∧ w = sh mD (340 * x) d * ze (sh mD (340 * y)) (mZ y) e9 ∧ 0 ≤ ze (sh mD (340 * y)) (mZ y) e9 ∧ ze (sh mD (340 * y)) (mZ y) e9 ≤ 9 ∧ (mZ y ≤ e9 → w = 0) := by rw [e_vv]; first | exact ⟨_, rfl, by rw [ze_in hc104, hgx, hgy]; rfl, by rw [ze_in hc104]; exact hdy.1, by rw [ze_in hc104]; exact hdy.2, fun q => by omega⟩ | exact ⟨0, rfl, by rw [ze_out hc104, Int.mul_zero], by rw [ze_out hc104]; omega, by rw [ze_out hc104]; omega, fun _ => rfl⟩
                      obtain ⟨w9, hw1, hw2, hw3, hw4, hw5⟩ := hww
                      obtain ⟨hS9, hv0, hv9⟩ := mm_s hJ (by omega) hle hdx ⟨hw3, hw4⟩ hw1 hw2
                      have hz0 : mZ y ≤ e9 → D7 (340 * i + d + e9) = 0 := fun q => (by rw [show 340 * i + d + e9 = 340 * i + (d + e9) by omega]; exact hJ.2.2.2.2.2.1 (d + e9) (by omega) (by omega) (by omega))
                      refine lv_aload_n hx hb dMo_multiply_141 rfl (lv_at hl 4 rfl) ?_
                      refine va_get (D := (dC, dI)) (ci := 7) (v := .ref (mo + 12)) (C := "MacroReckonerModel") (T := TMo) (N := 23) hx hb hts inMo hown hK hP 0 rfl rfl 21 (by decide) (hts _ wt4_79) (fun _ h9 => h9) rfl dMo_multiply_142 ?_
                      refine lv_sipush (v := iI 340) hx hb dMo_multiply_145 (by decide) ?_
                      refine lv_iload_n hx hb dMo_multiply_148 rfl (lv_at hl 5 rfl) ?_
                      refine iv_imul hx hb dMo_multiply_149 ?_
                      refine lv_iload hx hb dMo_multiply_150 (lv_at hl 3 rfl) ?_
                      refine iv_iadd hx hb dMo_multiply_152 ?_
                      refine lv_iload hx hb dMo_multiply_153 (lv_at hl 1 rfl) ?_
                      refine iv_iadd hx hb dMo_multiply_155 ?_
                      refine lv_iload hx hb dMo_multiply_156 (lv_at hl 0 rfl) ?_
                      refine lv_bipush (v := iI 10) hx hb dMo_multiply_158 (by decide) ?_
                      refine iv_irem hx hb dMo_multiply_160 (by omega) ⟨by omega, by omega⟩ (by omega) ⟨by decide, by decide⟩ ?_
                      refine iv_iast (v := vv % 10) hx hb hK hP hD hS 12 0 rfl rfl (by decide) dMo_multiply_161 (by omega) (by omega) (fun H locs hP hD hS => ?_)
                      have hP : va_P (dC, dI) vwCl (wMo dA mo ft lf hg kk tx pn tk fm tO tl mI mT mS mC mL mB mF mU mX mP mK (up D7 (((340 * i) + d) + e9) (vv % 10)) mZ []) H := hP
                      have hD : va_D A (wMo dA mo ft lf hg kk tx pn tk fm tO tl mI mT mS mC mL mB mF mU mX mP mK (up D7 (((340 * i) + d) + e9) (vv % 10)) mZ []) := hD
                      refine lv_iload hx hb dMo_multiply_162 (lv_at hl 0 rfl) ?_
                      refine lv_bipush (v := iI 10) hx hb dMo_multiply_164 (by decide) ?_
                      refine iv_idiv hx hb dMo_multiply_166 (by omega) ⟨by omega, by omega⟩ (by omega) ⟨by decide, by decide⟩ ?_
                      refine lv_istore (lv' := [(5, .int (iI (vv / 10))), (7, .int (iI vv)), (6, .int (iI e9)), (4, .int (iI d)), (0, .ref mo), (1, .int (iI i)), (2, .int (iI x)), (3, .int (iI y))]) hx hb dMo_multiply_167 hl (by decide) rfl (fun ls hl => ?_)
                      refine lv_iinc (k := 2) (lv' := [(6, .int (iI (e9 + 1))), (5, .int (iI (vv / 10))), (7, .int (iI vv)), (4, .int (iI d)), (0, .ref mo), (1, .int (iI i)), (2, .int (iI x)), (3, .int (iI y))]) (v := iI (e9 + 1)) hx hb dMo_multiply_169 hl rfl (iI_add _ _).symm (by decide) rfl (fun ls hl => ?_)
                      refine lv_goto (tgt := 61) hx hb dMo_multiply_172 (by decide) ?_
                      exact ih61 (up D7 (((340 * i) + d) + e9) (vv % 10)) (vv / 10) (e9 + 1) H locs ls (by omega) (by exact hS9) (by omega) hP hD hS (lv_sub hl [0, 1, 3, 4, 5, 6, 7] rfl)
                  · refine lv_iload hx hb dMo_multiply_72 (lv_at hl 1 rfl) ?_
                    refine iv_if_le (tgt := 175) hx hb dMo_multiply_74 (by decide) ⟨by omega, by omega⟩ (fun hc74 => ?_) (fun hc74 => ?_)
                    · refine lv_iinc (k := 2) (lv' := [(4, .int (iI (d + 1))), (6, .int (iI e9)), (5, .int (iI cy)), (0, .ref mo), (1, .int (iI i)), (2, .int (iI x)), (3, .int (iI y))]) (v := iI (d + 1)) hx hb dMo_multiply_175 hl rfl (iI_add _ _).symm (by decide) rfl (fun ls hl => ?_)
                      refine lv_goto (tgt := 44) hx hb dMo_multiply_178 (by decide) ?_
                      exact ih44 D7 (d + 1) H locs ls (by omega) (by exact mm_n hJ hz2.1 (by omega) (by omega) (by omega) hM2.1.2.2) (by omega) hP hD hS (lv_sub hl [0, 3, 4, 5, 6] rfl)
                    · have hdx := hM.1.2.1 d (by omega) (by omega)
                      have hde := hJ.2.2.2.2.1 (d + e9) (by omega) (by omega)
                      rw [show 340 * i + (d + e9) = 340 * i + d + e9 by omega] at hde
                      refine lv_aload_n hx hb dMo_multiply_77 rfl (lv_at hl 3 rfl) ?_
                      refine va_get (D := (dC, dI)) (ci := 7) (v := .ref (mo + 12)) (C := "MacroReckonerModel") (T := TMo) (N := 23) hx hb hts inMo hown hK hP 0 rfl rfl 21 (by decide) (hts _ wt4_79) (fun _ h9 => h9) rfl dMo_multiply_78 ?_
                      refine lv_sipush (v := iI 340) hx hb dMo_multiply_81 (by decide) ?_
                      refine lv_iload_n hx hb dMo_multiply_84 rfl (lv_at hl 4 rfl) ?_
                      refine iv_imul hx hb dMo_multiply_85 ?_
                      refine lv_iload hx hb dMo_multiply_86 (lv_at hl 2 rfl) ?_
                      refine iv_iadd hx hb dMo_multiply_88 ?_
                      refine lv_iload hx hb dMo_multiply_89 (lv_at hl 0 rfl) ?_
                      refine iv_iadd hx hb dMo_multiply_91 ?_
                      refine iv_iald hx hb hK hP 12 0 rfl rfl (by decide) dMo_multiply_92 (by omega) (by omega) ?_
                      refine lv_iload hx hb dMo_multiply_93 (lv_at hl 1 rfl) ?_
                      refine iv_iadd hx hb dMo_multiply_95 ?_
                      refine lv_iload hx hb dMo_multiply_96 (lv_at hl 0 rfl) ?_
                      refine lv_aload_n hx hb dMo_multiply_98 rfl (lv_at hl 3 rfl) ?_
                      refine va_get (D := (dC, dI)) (ci := 7) (v := .ref (mo + 13)) (C := "MacroReckonerModel") (T := TMo) (N := 23) hx hb hts inMo hown hK hP 0 rfl rfl 22 (by decide) (hts _ wt4_80) (fun _ h9 => h9) rfl dMo_multiply_99 ?_
                      refine lv_iload_n hx hb dMo_multiply_102 rfl (lv_at hl 6 rfl) ?_
                      refine iv_iald hx hb hK hP 13 0 rfl rfl (by decide) dMo_multiply_103 (by omega) (by omega) ?_
                      refine iv_icmp_ge (tgt := 137) hx hb dMo_multiply_104 (by decide) ⟨by omega, by omega⟩ ⟨by omega, by omega⟩ (fun hc104 => ?_) (fun hc104 => ?_)
                      · refine lv_iconst (v := iI 0) hx hb dMo_multiply_137 rfl ?_
                        refine iv_iadd hx hb dMo_multiply_138 ?_
                        refine lv_istore (lv' := [(7, .int (iI (((D7 (((340 * i) + d) + e9)) + cy) + 0))), (6, .int (iI e9)), (5, .int (iI cy)), (4, .int (iI d)), (0, .ref mo), (1, .int (iI i)), (2, .int (iI x)), (3, .int (iI y))]) hx hb dMo_multiply_139 hl (by decide) rfl (fun ls hl => ?_)
                        obtain ⟨vv, e_vv⟩ : ∃ z : Int, z = ((D7 (((340 * i) + d) + e9)) + cy) + 0 := ⟨_, rfl⟩
                        have hl : lv_has ls 8 [(7, .int (iI vv)), (6, .int (iI e9)), (5, .int (iI cy)), (4, .int (iI d)), (0, .ref mo), (1, .int (iI i)), (2, .int (iI x)), (3, .int (iI y))] := by rw [e_vv]; exact hl
                        have hww : ∃ w, vv = D7 (340 * i + d + e9) + cy + w ∧ w = sh mD (340 * x) d * ze (sh mD (340 * y)) (mZ y) e9 ∧ 0 ≤ ze (sh mD (340 * y)) (mZ y) e9 ∧ ze (sh mD (340 * y)) (mZ y) e9 ≤ 9 ∧ (mZ y ≤ e9 → w = 0) := by rw [e_vv]; first | exact ⟨_, rfl, by rw [ze_in hc104, hgx, hgy]; rfl, by rw [ze_in hc104]; exact hdy.1, by rw [ze_in hc104]; exact hdy.2, fun q => by omega⟩ | exact ⟨0, rfl, by rw [ze_out hc104, Int.mul_zero], by rw [ze_out hc104]; omega, by rw [ze_out hc104]; omega, fun _ => rfl⟩
                        obtain ⟨w9, hw1, hw2, hw3, hw4, hw5⟩ := hww
                        obtain ⟨hS9, hv0, hv9⟩ := mm_s hJ (by omega) hle hdx ⟨hw3, hw4⟩ hw1 hw2
                        have hz0 : mZ y ≤ e9 → D7 (340 * i + d + e9) = 0 := fun q => (by rw [show 340 * i + d + e9 = 340 * i + (d + e9) by omega]; exact hJ.2.2.2.2.2.1 (d + e9) (by omega) (by omega) (by omega))
                        refine lv_aload_n hx hb dMo_multiply_141 rfl (lv_at hl 4 rfl) ?_
                        refine va_get (D := (dC, dI)) (ci := 7) (v := .ref (mo + 12)) (C := "MacroReckonerModel") (T := TMo) (N := 23) hx hb hts inMo hown hK hP 0 rfl rfl 21 (by decide) (hts _ wt4_79) (fun _ h9 => h9) rfl dMo_multiply_142 ?_
                        refine lv_sipush (v := iI 340) hx hb dMo_multiply_145 (by decide) ?_
                        refine lv_iload_n hx hb dMo_multiply_148 rfl (lv_at hl 5 rfl) ?_
                        refine iv_imul hx hb dMo_multiply_149 ?_
                        refine lv_iload hx hb dMo_multiply_150 (lv_at hl 3 rfl) ?_
                        refine iv_iadd hx hb dMo_multiply_152 ?_
                        refine lv_iload hx hb dMo_multiply_153 (lv_at hl 1 rfl) ?_
                        refine iv_iadd hx hb dMo_multiply_155 ?_
                        refine lv_iload hx hb dMo_multiply_156 (lv_at hl 0 rfl) ?_
                        refine lv_bipush (v := iI 10) hx hb dMo_multiply_158 (by decide) ?_
                        refine iv_irem hx hb dMo_multiply_160 (by omega) ⟨by omega, by omega⟩ (by omega) ⟨by decide, by decide⟩ ?_
                        refine iv_iast (v := vv % 10) hx hb hK hP hD hS 12 0 rfl rfl (by decide) dMo_multiply_161 (by omega) (by omega) (fun H locs hP hD hS => ?_)
                        have hP : va_P (dC, dI) vwCl (wMo dA mo ft lf hg kk tx pn tk fm tO tl mI mT mS mC mL mB mF mU mX mP mK (up D7 (((340 * i) + d) + e9) (vv % 10)) mZ []) H := hP
                        have hD : va_D A (wMo dA mo ft lf hg kk tx pn tk fm tO tl mI mT mS mC mL mB mF mU mX mP mK (up D7 (((340 * i) + d) + e9) (vv % 10)) mZ []) := hD
                        refine lv_iload hx hb dMo_multiply_162 (lv_at hl 0 rfl) ?_
                        refine lv_bipush (v := iI 10) hx hb dMo_multiply_164 (by decide) ?_
                        refine iv_idiv hx hb dMo_multiply_166 (by omega) ⟨by omega, by omega⟩ (by omega) ⟨by decide, by decide⟩ ?_
                        refine lv_istore (lv' := [(5, .int (iI (vv / 10))), (7, .int (iI vv)), (6, .int (iI e9)), (4, .int (iI d)), (0, .ref mo), (1, .int (iI i)), (2, .int (iI x)), (3, .int (iI y))]) hx hb dMo_multiply_167 hl (by decide) rfl (fun ls hl => ?_)
                        refine lv_iinc (k := 2) (lv' := [(6, .int (iI (e9 + 1))), (5, .int (iI (vv / 10))), (7, .int (iI vv)), (4, .int (iI d)), (0, .ref mo), (1, .int (iI i)), (2, .int (iI x)), (3, .int (iI y))]) (v := iI (e9 + 1)) hx hb dMo_multiply_169 hl rfl (iI_add _ _).symm (by decide) rfl (fun ls hl => ?_)
                        refine lv_goto (tgt := 61) hx hb dMo_multiply_172 (by decide) ?_
                        exact ih61 (up D7 (((340 * i) + d) + e9) (vv % 10)) (vv / 10) (e9 + 1) H locs ls (by omega) (by exact hS9) (by omega) hP hD hS (lv_sub hl [0, 1, 3, 4, 5, 6, 7] rfl)
                      · have hgx := hJ.2.2.2.2.2.2.1 (340 * x + d) (by omega)
                        have hgy := hJ.2.2.2.2.2.2.1 (340 * y + e9) (by omega)
                        have hdy := hM2.1.2.1 e9 (by omega) (by omega)
                        refine lv_aload_n hx hb dMo_multiply_107 rfl (lv_at hl 3 rfl) ?_
                        refine va_get (D := (dC, dI)) (ci := 7) (v := .ref (mo + 12)) (C := "MacroReckonerModel") (T := TMo) (N := 23) hx hb hts inMo hown hK hP 0 rfl rfl 21 (by decide) (hts _ wt4_79) (fun _ h9 => h9) rfl dMo_multiply_108 ?_
                        refine lv_sipush (v := iI 340) hx hb dMo_multiply_111 (by decide) ?_
                        refine lv_iload_n hx hb dMo_multiply_114 rfl (lv_at hl 5 rfl) ?_
                        refine iv_imul hx hb dMo_multiply_115 ?_
                        refine lv_iload hx hb dMo_multiply_116 (lv_at hl 2 rfl) ?_
                        refine iv_iadd hx hb dMo_multiply_118 ?_
                        refine iv_iald hx hb hK hP 12 0 rfl rfl (by decide) dMo_multiply_119 (by omega) (by omega) ?_
                        refine lv_aload_n hx hb dMo_multiply_120 rfl (lv_at hl 3 rfl) ?_
                        refine va_get (D := (dC, dI)) (ci := 7) (v := .ref (mo + 12)) (C := "MacroReckonerModel") (T := TMo) (N := 23) hx hb hts inMo hown hK hP 0 rfl rfl 21 (by decide) (hts _ wt4_79) (fun _ h9 => h9) rfl dMo_multiply_121 ?_
                        refine lv_sipush (v := iI 340) hx hb dMo_multiply_124 (by decide) ?_
                        refine lv_iload_n hx hb dMo_multiply_127 rfl (lv_at hl 6 rfl) ?_
                        refine iv_imul hx hb dMo_multiply_128 ?_
                        refine lv_iload hx hb dMo_multiply_129 (lv_at hl 0 rfl) ?_
                        refine iv_iadd hx hb dMo_multiply_131 ?_
                        refine iv_iald hx hb hK hP 12 0 rfl rfl (by decide) dMo_multiply_132 (by omega) (by omega) ?_
                        refine iv_imul hx hb dMo_multiply_133 ?_
                        refine lv_goto (tgt := 138) hx hb dMo_multiply_134 (by decide) ?_
                        refine iv_iadd hx hb dMo_multiply_138 ?_
                        refine lv_istore (lv' := [(7, .int (iI (((D7 (((340 * i) + d) + e9)) + cy) + ((D7 ((340 * x) + d)) * (D7 ((340 * y) + e9)))))), (6, .int (iI e9)), (5, .int (iI cy)), (4, .int (iI d)), (0, .ref mo), (1, .int (iI i)), (2, .int (iI x)), (3, .int (iI y))]) hx hb dMo_multiply_139 hl (by decide) rfl (fun ls hl => ?_)
                        obtain ⟨vv, e_vv⟩ : ∃ z : Int, z = ((D7 (((340 * i) + d) + e9)) + cy) + ((D7 ((340 * x) + d)) * (D7 ((340 * y) + e9))) := ⟨_, rfl⟩
                        have hl : lv_has ls 8 [(7, .int (iI vv)), (6, .int (iI e9)), (5, .int (iI cy)), (4, .int (iI d)), (0, .ref mo), (1, .int (iI i)), (2, .int (iI x)), (3, .int (iI y))] := by rw [e_vv]; exact hl
                        have hww : ∃ w, vv = D7 (340 * i + d + e9) + cy + w ∧ w = sh mD (340 * x) d * ze (sh mD (340 * y)) (mZ y) e9 ∧ 0 ≤ ze (sh mD (340 * y)) (mZ y) e9 ∧ ze (sh mD (340 * y)) (mZ y) e9 ≤ 9 ∧ (mZ y ≤ e9 → w = 0) := by rw [e_vv]; first | exact ⟨_, rfl, by rw [ze_in hc104, hgx, hgy]; rfl, by rw [ze_in hc104]; exact hdy.1, by rw [ze_in hc104]; exact hdy.2, fun q => by omega⟩ | exact ⟨0, rfl, by rw [ze_out hc104, Int.mul_zero], by rw [ze_out hc104]; omega, by rw [ze_out hc104]; omega, fun _ => rfl⟩
                        obtain ⟨w9, hw1, hw2, hw3, hw4, hw5⟩ := hww
                        obtain ⟨hS9, hv0, hv9⟩ := mm_s hJ (by omega) hle hdx ⟨hw3, hw4⟩ hw1 hw2
                        have hz0 : mZ y ≤ e9 → D7 (340 * i + d + e9) = 0 := fun q => (by rw [show 340 * i + d + e9 = 340 * i + (d + e9) by omega]; exact hJ.2.2.2.2.2.1 (d + e9) (by omega) (by omega) (by omega))
                        refine lv_aload_n hx hb dMo_multiply_141 rfl (lv_at hl 4 rfl) ?_
                        refine va_get (D := (dC, dI)) (ci := 7) (v := .ref (mo + 12)) (C := "MacroReckonerModel") (T := TMo) (N := 23) hx hb hts inMo hown hK hP 0 rfl rfl 21 (by decide) (hts _ wt4_79) (fun _ h9 => h9) rfl dMo_multiply_142 ?_
                        refine lv_sipush (v := iI 340) hx hb dMo_multiply_145 (by decide) ?_
                        refine lv_iload_n hx hb dMo_multiply_148 rfl (lv_at hl 5 rfl) ?_
                        refine iv_imul hx hb dMo_multiply_149 ?_
                        refine lv_iload hx hb dMo_multiply_150 (lv_at hl 3 rfl) ?_
                        refine iv_iadd hx hb dMo_multiply_152 ?_
                        refine lv_iload hx hb dMo_multiply_153 (lv_at hl 1 rfl) ?_
                        refine iv_iadd hx hb dMo_multiply_155 ?_
                        refine lv_iload hx hb dMo_multiply_156 (lv_at hl 0 rfl) ?_
                        refine lv_bipush (v := iI 10) hx hb dMo_multiply_158 (by decide) ?_
                        refine iv_irem hx hb dMo_multiply_160 (by omega) ⟨by omega, by omega⟩ (by omega) ⟨by decide, by decide⟩ ?_
                        refine iv_iast (v := vv % 10) hx hb hK hP hD hS 12 0 rfl rfl (by decide) dMo_multiply_161 (by omega) (by omega) (fun H locs hP hD hS => ?_)
                        have hP : va_P (dC, dI) vwCl (wMo dA mo ft lf hg kk tx pn tk fm tO tl mI mT mS mC mL mB mF mU mX mP mK (up D7 (((340 * i) + d) + e9) (vv % 10)) mZ []) H := hP
                        have hD : va_D A (wMo dA mo ft lf hg kk tx pn tk fm tO tl mI mT mS mC mL mB mF mU mX mP mK (up D7 (((340 * i) + d) + e9) (vv % 10)) mZ []) := hD
                        refine lv_iload hx hb dMo_multiply_162 (lv_at hl 0 rfl) ?_
                        refine lv_bipush (v := iI 10) hx hb dMo_multiply_164 (by decide) ?_
                        refine iv_idiv hx hb dMo_multiply_166 (by omega) ⟨by omega, by omega⟩ (by omega) ⟨by decide, by decide⟩ ?_
                        refine lv_istore (lv' := [(5, .int (iI (vv / 10))), (7, .int (iI vv)), (6, .int (iI e9)), (4, .int (iI d)), (0, .ref mo), (1, .int (iI i)), (2, .int (iI x)), (3, .int (iI y))]) hx hb dMo_multiply_167 hl (by decide) rfl (fun ls hl => ?_)
                        refine lv_iinc (k := 2) (lv' := [(6, .int (iI (e9 + 1))), (5, .int (iI (vv / 10))), (7, .int (iI vv)), (4, .int (iI d)), (0, .ref mo), (1, .int (iI i)), (2, .int (iI x)), (3, .int (iI y))]) (v := iI (e9 + 1)) hx hb dMo_multiply_169 hl rfl (iI_add _ _).symm (by decide) rfl (fun ls hl => ?_)
                        refine lv_goto (tgt := 61) hx hb dMo_multiply_172 (by decide) ?_
                        exact ih61 (up D7 (((340 * i) + d) + e9) (vv % 10)) (vv / 10) (e9 + 1) H locs ls (by omega) (by exact hS9) (by omega) hP hD hS (lv_sub hl [0, 1, 3, 4, 5, 6, 7] rfl)
              exact L61 _ D8 0 0 H locs ls (by omega) (by exact hJ0) (Nat.lt_succ_self _) hP hD hS (lv_sub hl [0, 1, 2, 3, 4, 5, 6] rfl)
        exact L44 _ D9 0 H locs ls (by omega) (by exact mm_0 (by omega) (fun t x y => h0 t x (by omega)) ho hz2.1) (Nat.lt_succ_self _) hP hD hS (lv_sub hl [0, 1, 2, 3, 4] rfl)
      · refine lv_aload_n hx hb dMo_multiply_21 rfl (lv_at hl 1 rfl) ?_
        refine va_get (D := (dC, dI)) (ci := 7) (v := .ref (mo + 12)) (C := "MacroReckonerModel") (T := TMo) (N := 23) hx hb hts inMo hown hK hP 0 rfl rfl 21 (by decide) (hts _ wt4_79) (fun _ h9 => h9) rfl dMo_multiply_22 ?_
        refine lv_sipush (v := iI 340) hx hb dMo_multiply_25 (by decide) ?_
        refine lv_iload_n hx hb dMo_multiply_28 rfl (lv_at hl 2 rfl) ?_
        refine iv_imul hx hb dMo_multiply_29 ?_
        refine lv_iload hx hb dMo_multiply_30 (lv_at hl 0 rfl) ?_
        refine iv_iadd hx hb dMo_multiply_32 ?_
        refine lv_iconst (v := iI 0) hx hb dMo_multiply_33 rfl ?_
        refine iv_iast (v := 0) hx hb hK hP hD hS 12 0 rfl rfl (by decide) dMo_multiply_34 (by omega) (by omega) (fun H locs hP hD hS => ?_)
        have hP : va_P (dC, dI) vwCl (wMo dA mo ft lf hg kk tx pn tk fm tO tl mI mT mS mC mL mB mF mU mX mP mK (up D9 ((340 * i) + d) 0) mZ []) H := hP
        have hD : va_D A (wMo dA mo ft lf hg kk tx pn tk fm tO tl mI mT mS mC mL mB mF mU mX mP mK (up D9 ((340 * i) + d) 0) mZ []) := hD
        refine lv_iinc (k := 0) (lv' := [(4, .int (iI (d + 1))), (0, .ref mo), (1, .int (iI i)), (2, .int (iI x)), (3, .int (iI y))]) (v := iI (d + 1)) hx hb dMo_multiply_35 hl rfl (iI_add _ _).symm (by decide) rfl (fun ls hl => ?_)
        refine lv_goto (tgt := 3) hx hb dMo_multiply_38 (by decide) ?_
        exact ih3 (up D9 ((340 * i) + d) 0) (d + 1) H locs ls (by omega) (by intro t x y; by_cases z : t = d; rw [z, up_s]; rw [up_n (by omega)]; exact h0 t x (by omega)) (by intro p x; rw [up_n (by omega)]; exact ho p x) (by omega) hP hD hS (lv_sub hl [0, 1, 2, 3, 4] rfl)
  exact L3 _ mD 0 H locs ls (by omega) (by intro t x y; omega) (by intro p _; rfl) (Nat.lt_succ_self _) hP hD hS (lv_sub hl [0, 1, 2, 3, 4] rfl)
