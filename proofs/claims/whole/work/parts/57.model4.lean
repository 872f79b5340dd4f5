theorem dMo_decrease_0 : decode prog_9_method_11_code 0 = .ok (.iconst 0, 1) := by decide +kernel
theorem dMo_decrease_1 : decode prog_9_method_11_code 1 = .ok (.istore_n 3, 1) := by decide +kernel
theorem dMo_decrease_2 : decode prog_9_method_11_code 2 = .ok (.iconst 0, 1) := by decide +kernel
theorem dMo_decrease_3 : decode prog_9_method_11_code 3 = .ok (.istore 4, 2) := by decide +kernel
theorem dMo_decrease_5 : decode prog_9_method_11_code 5 = .ok (.iload 4, 2) := by decide +kernel
theorem dMo_decrease_7 : decode prog_9_method_11_code 7 = .ok (.aload_n 0, 1) := by decide +kernel
theorem dMo_decrease_8 : decode prog_9_method_11_code 8 = .ok (.getfield 47, 3) := by decide +kernel
theorem dMo_decrease_11 : decode prog_9_method_11_code 11 = .ok (.iload_n 1, 1) := by decide +kernel
theorem dMo_decrease_12 : decode prog_9_method_11_code 12 = .ok (.iaload, 1) := by decide +kernel
theorem dMo_decrease_13 : decode prog_9_method_11_code 13 = .ok (.if_icmp .ge 94, 3) := by decide +kernel
theorem dMo_decrease_16 : decode prog_9_method_11_code 16 = .ok (.aload_n 0, 1) := by decide +kernel
theorem dMo_decrease_17 : decode prog_9_method_11_code 17 = .ok (.getfield 44, 3) := by decide +kernel
theorem dMo_decrease_20 : decode prog_9_method_11_code 20 = .ok (.sipush 340, 3) := by decide +kernel
theorem dMo_decrease_23 : decode prog_9_method_11_code 23 = .ok (.iload_n 1, 1) := by decide +kernel
theorem dMo_decrease_24 : decode prog_9_method_11_code 24 = .ok (.imul, 1) := by decide +kernel
theorem dMo_decrease_25 : decode prog_9_method_11_code 25 = .ok (.iload 4, 2) := by decide +kernel
theorem dMo_decrease_27 : decode prog_9_method_11_code 27 = .ok (.iadd, 1) := by decide +kernel
theorem dMo_decrease_28 : decode prog_9_method_11_code 28 = .ok (.iaload, 1) := by decide +kernel
theorem dMo_decrease_29 : decode prog_9_method_11_code 29 = .ok (.iload_n 3, 1) := by decide +kernel
theorem dMo_decrease_30 : decode prog_9_method_11_code 30 = .ok (.isub, 1) := by decide +kernel
theorem dMo_decrease_31 : decode prog_9_method_11_code 31 = .ok (.iload 4, 2) := by decide +kernel
theorem dMo_decrease_33 : decode prog_9_method_11_code 33 = .ok (.aload_n 0, 1) := by decide +kernel
theorem dMo_decrease_34 : decode prog_9_method_11_code 34 = .ok (.getfield 47, 3) := by decide +kernel
theorem dMo_decrease_37 : decode prog_9_method_11_code 37 = .ok (.iload_n 2, 1) := by decide +kernel
theorem dMo_decrease_38 : decode prog_9_method_11_code 38 = .ok (.iaload, 1) := by decide +kernel
theorem dMo_decrease_39 : decode prog_9_method_11_code 39 = .ok (.if_icmp .ge 19, 3) := by decide +kernel
theorem dMo_decrease_42 : decode prog_9_method_11_code 42 = .ok (.aload_n 0, 1) := by decide +kernel
theorem dMo_decrease_43 : decode prog_9_method_11_code 43 = .ok (.getfield 44, 3) := by decide +kernel
theorem dMo_decrease_46 : decode prog_9_method_11_code 46 = .ok (.sipush 340, 3) := by decide +kernel
theorem dMo_decrease_49 : decode prog_9_method_11_code 49 = .ok (.iload_n 2, 1) := by decide +kernel
theorem dMo_decrease_50 : decode prog_9_method_11_code 50 = .ok (.imul, 1) := by decide +kernel
theorem dMo_decrease_51 : decode prog_9_method_11_code 51 = .ok (.iload 4, 2) := by decide +kernel
theorem dMo_decrease_53 : decode prog_9_method_11_code 53 = .ok (.iadd, 1) := by decide +kernel
theorem dMo_decrease_54 : decode prog_9_method_11_code 54 = .ok (.iaload, 1) := by decide +kernel
theorem dMo_decrease_55 : decode prog_9_method_11_code 55 = .ok (.goto 4, 3) := by decide +kernel
theorem dMo_decrease_58 : decode prog_9_method_11_code 58 = .ok (.iconst 0, 1) := by decide +kernel
theorem dMo_decrease_59 : decode prog_9_method_11_code 59 = .ok (.isub, 1) := by decide +kernel
theorem dMo_decrease_60 : decode prog_9_method_11_code 60 = .ok (.istore 5, 2) := by decide +kernel
theorem dMo_decrease_62 : decode prog_9_method_11_code 62 = .ok (.iload 5, 2) := by decide +kernel
theorem dMo_decrease_64 : decode prog_9_method_11_code 64 = .ok (.ifCond .ge 7, 3) := by decide +kernel
theorem dMo_decrease_67 : decode prog_9_method_11_code 67 = .ok (.iconst 1, 1) := by decide +kernel
theorem dMo_decrease_68 : decode prog_9_method_11_code 68 = .ok (.goto 4, 3) := by decide +kernel
theorem dMo_decrease_71 : decode prog_9_method_11_code 71 = .ok (.iconst 0, 1) := by decide +kernel
theorem dMo_decrease_72 : decode prog_9_method_11_code 72 = .ok (.istore_n 3, 1) := by decide +kernel
theorem dMo_decrease_73 : decode prog_9_method_11_code 73 = .ok (.aload_n 0, 1) := by decide +kernel
theorem dMo_decrease_74 : decode prog_9_method_11_code 74 = .ok (.getfield 44, 3) := by decide +kernel
theorem dMo_decrease_77 : decode prog_9_method_11_code 77 = .ok (.sipush 340, 3) := by decide +kernel
theorem dMo_decrease_80 : decode prog_9_method_11_code 80 = .ok (.iload_n 1, 1) := by decide +kernel
theorem dMo_decrease_81 : decode prog_9_method_11_code 81 = .ok (.imul, 1) := by decide +kernel
theorem dMo_decrease_82 : decode prog_9_method_11_code 82 = .ok (.iload 4, 2) := by decide +kernel
theorem dMo_decrease_84 : decode prog_9_method_11_code 84 = .ok (.iadd, 1) := by decide +kernel
theorem dMo_decrease_85 : decode prog_9_method_11_code 85 = .ok (.iload 5, 2) := by decide +kernel
theorem dMo_decrease_87 : decode prog_9_method_11_code 87 = .ok (.ifCond .ge 11, 3) := by decide +kernel
theorem dMo_decrease_90 : decode prog_9_method_11_code 90 = .ok (.iload 5, 2) := by decide +kernel
theorem dMo_decrease_92 : decode prog_9_method_11_code 92 = .ok (.bipush 10, 2) := by decide +kernel
theorem dMo_decrease_94 : decode prog_9_method_11_code 94 = .ok (.iadd, 1) := by decide +kernel
theorem dMo_decrease_95 : decode prog_9_method_11_code 95 = .ok (.goto 5, 3) := by decide +kernel
theorem dMo_decrease_98 : decode prog_9_method_11_code 98 = .ok (.iload 5, 2) := by decide +kernel
theorem dMo_decrease_100 : decode prog_9_method_11_code 100 = .ok (.iastore, 1) := by decide +kernel
theorem dMo_decrease_101 : decode prog_9_method_11_code 101 = .ok (.iinc 4 1, 3) := by decide +kernel
theorem dMo_decrease_104 : decode prog_9_method_11_code 104 = .ok (.goto (-99), 3) := by decide +kernel
theorem dMo_decrease_107 : decode prog_9_method_11_code 107 = .ok (.aload_n 0, 1) := by decide +kernel
theorem dMo_decrease_108 : decode prog_9_method_11_code 108 = .ok (.iload_n 1, 1) := by decide +kernel
theorem dMo_decrease_109 : decode prog_9_method_11_code 109 = .ok (.invokevirtual 54, 3) := by decide +kernel
theorem dMo_decrease_112 : decode prog_9_method_11_code 112 = .ok (.return_, 1) := by decide +kernel
abbrev qMo_decrease (dC : Nat → ClassId) (dI : Nat → Nat → Nat) (dA : Nat → ClassId) (mo : Nat) (ft : Int) (lf : Int) (hg : Int) (kk : Int) (tx : Int) (pn : Int) (tk : Int) (fm : Int) (tO : Int) (tl : Int) (mI : Int → Int) (mT : Int → Int) (mS : Int → Int) (mC : Int → Int) (mL : Int → Int) (mB : Int → Int) (mF : Int → Int) (mU : Int → Int) (mX : Int → Int) (mP : Int → Int) (mK : Int → Int) (mD : Int → Int) (mZ : Int → Int) (i : Int) (j : Int) (N : Int) (M : Int) (A : Nat → Prop) : Array Value → State → Outcome → State → Prop := QV (dC, dI) vwCl (tyA dA) (fun (v_ : (Int → Int) × (Int → Int)) => MR v_.1 v_.2 i (N - M) ∧ others mD mZ v_.1 v_.2 i) (fun (v_ : (Int → Int) × (Int → Int)) => wMo dA mo ft lf hg kk tx pn tk fm tO tl mI mT mS mC mL mB mF mU mX mP mK v_.1 v_.2 []) A
abbrev rmMo_decrease : Room := { frames := 1, cells := 0, slots := 0, locals := 21 }
set_option maxRecDepth 100000 in
set_option maxHeartbeats 1000000 in
theorem cMo_decrease (l : Launch) (dC : Nat → ClassId) (dI : Nat → Nat → Nat) (dA : Nat → ClassId) (mo : Nat) (ft : Int) (lf : Int) (hg : Int) (kk : Int) (tx : Int) (pn : Int) (tk : Int) (fm : Int) (tO : Int) (tl : Int) (mI : Int → Int) (mT : Int → Int) (mS : Int → Int) (mC : Int → Int) (mL : Int → Int) (mB : Int → Int) (mF : Int → Int) (mU : Int → Int) (mX : Int → Int) (mP : Int → Int) (mK : Int → Int) (mD : Int → Int) (mZ : Int → Int) (i : Int) (j : Int) (N : Int) (M : Int) (hi : 0 ≤ i ∧ i ≤ 4 ∧ 0 ≤ j ∧ j ≤ 4 ∧ i ≠ j) (hM : MR mD mZ i N) (hM2 : MR mD mZ j M) (hle : M ≤ N) (sz : Nat) : Met l yMo_decrease wsMo_decrease rmMo_decrease (PC (dC, dI) vwCl (tyA dA) XN [.ref mo, .int (iI i), .int (iI j)] (wMo dA mo ft lf hg kk tx pn tk fm tO tl mI mT mS mC mL mB mF mU mX mP mK mD mZ []) sz) (qMo_decrease dC dI dA mo ft lf hg kk tx pn tk fm tO tl mI mT mS mC mL mB mF mU mX mP mK mD mZ i j N M (va_A (wMo dA mo ft lf hg kk tx pn tk fm tO tl mI mT mS mC mL mB mF mU mX mP mK mD mZ []) sz)) 0 0 (va_A (wMo dA mo ft lf hg kk tx pn tk fm tO tl mI mT mS mC mL mB mF mU mX mP mK mD mZ []) sz) := by
  refine met_of (cc := prog_9_method_11_code) (maxL := 6) (ret := none) (Qc := qMo_decrease dC dI dA mo ft lf hg kk tx pn tk fm tO tl mI mT mS mC mL mB mF mU mX mP mK mD mZ i j N M) XN_ok (by decide) rfl (Nat.le_of_ble_eq_true rfl) ?_
  intro p e s m below meth c ls A hx hb hr hml hown hts hlocks hnm hK hP hD hA hX hS hl
  have hl : lv_has ls 6 [(0, .ref mo), (1, .int (iI i)), (2, .int (iI j))] := hl
  have hown : s.vm.findClass "MacroReckonerModel" = some m.cls := hown
  obtain ⟨H, hH⟩ : ∃ H : Heap, H = s.heap := ⟨_, rfl⟩
  obtain ⟨locs, hlo⟩ : ∃ L : List Loc, L = [] := ⟨_, rfl⟩
  have hP : va_P (dC, dI) vwCl (wMo dA mo ft lf hg kk tx pn tk fm tO tl mI mT mS mC mL mB mF mU mX mP mK mD mZ []) H := hH ▸ hP
  have hS : va_S A s.heap H locs := by rw [hH, hlo]; exact hS
  suffices hgo : W p l e rmMo_decrease s m [.ref mo, .int (iI i), .int (iI j)].toArray below meth c H locs 0 0 (MQ below (qMo_decrease dC dI dA mo ft lf hg kk tx pn tk fm tO tl mI mT mS mC mL mB mF mU mX mP mK mD mZ i j N M A) [.ref mo, .int (iI i), .int (iI j)].toArray s 0 0 A) (F0 m 0 ls []) by rw [hH, hlo] at hgo; exact hgo
  clear hH hlo
  have hz := hM.1.1
  have hz2 := hM2.1.1
  refine lv_iconst (v := iI 0) hx hb dMo_decrease_0 rfl ?_
  refine lv_istore_n (lv' := [(3, .int (iI 0)), (0, .ref mo), (1, .int (iI i)), (2, .int (iI j))]) hx hb dMo_decrease_1 rfl hl (by decide) rfl (fun ls hl => ?_)
  refine lv_iconst (v := iI 0) hx hb dMo_decrease_2 rfl ?_
  refine lv_istore (lv' := [(4, .int (iI 0)), (3, .int (iI 0)), (0, .ref mo), (1, .int (iI i)), (2, .int (iI j))]) hx hb dMo_decrease_3 hl (by decide) rfl (fun ls hl => ?_)
  have L5 : ∀ (n : Nat) (D9 : Int → Int) (bw : Int) (d : Int) (H : Heap) (locs : List Loc) (ls : Array Slot), (d ≤ mZ i) → (mdJ mD i (ze (sh mD (340 * j)) (mZ j)) D9 bw d) → (mZ i - d).toNat < n → va_P (dC, dI) vwCl (wMo dA mo ft lf hg kk tx pn tk fm tO tl mI mT mS mC mL mB mF mU mX mP mK D9 mZ []) H → va_D A (wMo dA mo ft lf hg kk tx pn tk fm tO tl mI mT mS mC mL mB mF mU mX mP mK D9 mZ []) → va_S A s.heap H locs → lv_has ls 6 [(4, .int (iI d)), (3, .int (iI bw)), (0, .ref mo), (1, .int (iI i)), (2, .int (iI j))] → W p l e rmMo_decrease s m [.ref mo, .int (iI i), .int (iI j)].toArray below meth c H locs 0 0 (MQ below (qMo_decrease dC dI dA mo ft lf hg kk tx pn tk fm tO tl mI mT mS mC mL mB mF mU mX mP mK mD mZ i j N M A) [.ref mo, .int (iI i), .int (iI j)].toArray s 0 0 A) (F0 m 5 ls []) := by
    intro n
    induction n with
    | zero => intro D9 bw d H locs ls hd hJ hn; omega
    | succ n ih =>
      intro D9 bw d H locs ls hd hJ hn hP hD hS hl
      have hj1 := hJ.1
      have hj2 := hJ.2.1
      have hj3 := hJ.2.2.1
      have ih5 := ih
      refine lv_iload hx hb dMo_decrease_5 (lv_at hl 0 rfl) ?_
      refine lv_aload_n hx hb dMo_decrease_7 rfl (lv_at hl 2 rfl) ?_
      refine va_get (D := (dC, dI)) (ci := 7) (v := .ref (mo + 13)) (C := "MacroReckonerModel") (T := TMo) (N := 23) hx hb hts inMo hown hK hP 0 rfl rfl 22 (by decide) (hts _ wt4_80) (fun _ h9 => h9) rfl dMo_decrease_8 ?_
      refine lv_iload_n hx hb dMo_decrease_11 rfl (lv_at hl 3 rfl) ?_
      refine iv_iald hx hb hK hP 13 0 rfl rfl (by decide) dMo_decrease_12 (by omega) (by omega) ?_
      refine iv_icmp_ge (tgt := 107) hx hb dMo_decrease_13 (by decide) ⟨by omega, by omega⟩ ⟨by omega, by omega⟩ (fun hc13 => ?_) (fun hc13 => ?_)
      · refine lv_aload_n hx hb dMo_decrease_107 rfl (lv_at hl 2 rfl) ?_
        refine lv_iload_n hx hb dMo_decrease_108 rfl (lv_at hl 3 rfl) ?_
        refine cv_v (va_runV (C := "MacroReckonerModel") (As := [.int (iI i)]) (rest := []) ⟨hx, hb, hml, hown, hts⟩ (cMo_trim l dC dI dA mo ft lf hg kk tx pn tk fm tO tl mI mT mS mC mL mB mF mU mX mP mK D9 mZ i (N - M) (by omega) (by exact md_e hM hM2 hJ (by omega) hle) H.size) (cwV 1 hts (gdV wt4_191 wt4_193 ws4_2 wt1_8 wt4_194) rfl rfl rfl ⟨rfl, by decide, by decide, by decide +kernel⟩ ⟨by decide, by decide⟩) (preV (q := ("MacroReckonerModel", TMo, 23)) hK hP hD hS hA XN_ok trivial [0, 1, 2, 3, 4, 5, 6, 7, 8, 9, 10, 11, 12, 13] rfl rfl 0 rfl rfl) rfl rfl hl.1 rfl (lv_room (Nat.le_of_ble_eq_true rfl)) dMo_decrease_109 ⟨Nat.zero_le _, Nat.zero_le _⟩) hP hD hS hA [0, 1, 2, 3, 4, 5, 6, 7, 8, 9, 10, 11, 12, 13] [] rfl (fun v_ => wMo dA mo ft lf hg kk tx pn tk fm tO tl mI mT mS mC mL mB mF mU mX mP mK D9 v_ []) (fun _ => rfl) ([] : va_W) rfl (fun _ => rfl) [mo, mo + 1, mo + 2, mo + 3, mo + 4, mo + 5, mo + 6, mo + 7, mo + 8, mo + 9, mo + 10, mo + 11, mo + 12, mo + 13] rfl (fun _ => rfl) (fun _ => rfl) (fun u_ H locs hq109 hP hD hS => ?_)
        obtain ⟨Z7, rfl⟩ : ∃ z, z = u_ := ⟨_, rfl⟩
        have hP : va_P (dC, dI) vwCl (wMo dA mo ft lf hg kk tx pn tk fm tO tl mI mT mS mC mL mB mF mU mX mP mK D9 Z7 []) H := hP
        have hD : va_D A (wMo dA mo ft lf hg kk tx pn tk fm tO tl mI mT mS mC mL mB mF mU mX mP mK D9 Z7 []) := hD
        have hq109 : MR D9 Z7 i (N - M) ∧ ∀ j, j ≠ i → Z7 j = mZ j := hq109
        exact rt_v hx hb hr hlocks hK hS dMo_decrease_112 (D9, Z7) hP hD (show MR D9 Z7 i (N - M) ∧ others mD mZ D9 Z7 i from by exact ⟨hq109.1, fun p x => hJ.2.2.2.2.1 p (by omega), hq109.2⟩)
      · have hdi := hM.1.2.1 d (by omega) (by omega)
        have hfi := hJ.2.2.2.2.1 (340 * i + d) (by omega)
        refine lv_aload_n hx hb dMo_decrease_16 rfl (lv_at hl 2 rfl) ?_
        refine va_get (D := (dC, dI)) (ci := 7) (v := .ref (mo + 12)) (C := "MacroReckonerModel") (T := TMo) (N := 23) hx hb hts inMo hown hK hP 0 rfl rfl 21 (by decide) (hts _ wt4_79) (fun _ h9 => h9) rfl dMo_decrease_17 ?_
        refine lv_sipush (v := iI 340) hx hb dMo_decrease_20 (by decide) ?_
        refine lv_iload_n hx hb dMo_decrease_23 rfl (lv_at hl 3 rfl) ?_
        refine iv_imul hx hb dMo_decrease_24 ?_
        refine lv_iload hx hb dMo_decrease_25 (lv_at hl 0 rfl) ?_
        refine iv_iadd hx hb dMo_decrease_27 ?_
        refine iv_iald hx hb hK hP 12 0 rfl rfl (by decide) dMo_decrease_28 (by omega) (by omega) ?_
        refine lv_iload_n hx hb dMo_decrease_29 rfl (lv_at hl 1 rfl) ?_
        refine iv_isub hx hb dMo_decrease_30 ?_
        refine lv_iload hx hb dMo_decrease_31 (lv_at hl 0 rfl) ?_
        refine lv_aload_n hx hb dMo_decrease_33 rfl (lv_at hl 2 rfl) ?_
        refine va_get (D := (dC, dI)) (ci := 7) (v := .ref (mo + 13)) (C := "MacroReckonerModel") (T := TMo) (N := 23) hx hb hts inMo hown hK hP 0 rfl rfl 22 (by decide) (hts _ wt4_80) (fun _ h9 => h9) rfl dMo_decrease_34 ?_
        refine lv_iload_n hx hb dMo_decrease_37 rfl (lv_at hl 4 rfl) ?_
        refine iv_iald hx hb hK hP 13 0 rfl rfl (by decide) dMo_decrease_38 (by omega) (by omega) ?_
        refine iv_icmp_ge (tgt := 58) hx hb dMo_decrease_39 (by decide) ⟨by omega, by omega⟩ ⟨by omega, by omega⟩ (fun hc39 => ?_) (fun hc39 => ?_)
        · refine lv_iconst (v := iI 0) hx hb dMo_decrease_58 rfl ?_
          refine iv_isub hx hb dMo_decrease_59 ?_
          refine lv_istore (lv' := [(5, .int (iI (((D9 ((340 * i) + d)) - bw) - 0))), (4, .int (iI d)), (3, .int (iI bw)), (0, .ref mo), (1, .int (iI i)), (2, .int (iI j))]) hx hb dMo_decrease_60 hl (by decide) rfl (fun ls hl => ?_)
          obtain ⟨vv, e_vv⟩ : ∃ z : Int, z = ((D9 ((340 * i) + d)) - bw) - 0 := ⟨_, rfl⟩
          have hl : lv_has ls 6 [(5, .int (iI vv)), (4, .int (iI d)), (3, .int (iI bw)), (0, .ref mo), (1, .int (iI i)), (2, .int (iI j))] := by rw [e_vv]; exact hl
          have hyy : ∃ y, y = ze (sh mD (340 * j)) (mZ j) d ∧ 0 ≤ y ∧ y ≤ 9 ∧ vv = D9 (340 * i + d) - bw - y := by rw [e_vv]; first | exact ⟨D9 (340 * j + d), by rw [ze_in hc39, hgj]; rfl, by omega, by omega, rfl⟩ | exact ⟨0, by rw [ze_out hc39], by omega, by omega, rfl⟩
          obtain ⟨y9, hy1, hy2, hy3, hy4⟩ := hyy
          refine lv_iload hx hb dMo_decrease_62 (lv_at hl 0 rfl) ?_
          refine iv_if_ge (tgt := 71) hx hb dMo_decrease_64 (by decide) ⟨by omega, by omega⟩ (fun hc64 => ?_) (fun hc64 => ?_)
          · refine lv_iconst (v := iI 0) hx hb dMo_decrease_71 rfl ?_
            refine lv_istore_n (lv' := [(3, .int (iI 0)), (5, .int (iI vv)), (4, .int (iI d)), (0, .ref mo), (1, .int (iI i)), (2, .int (iI j))]) hx hb dMo_decrease_72 rfl hl (by decide) rfl (fun ls hl => ?_)
            refine lv_aload_n hx hb dMo_decrease_73 rfl (lv_at hl 3 rfl) ?_
            refine va_get (D := (dC, dI)) (ci := 7) (v := .ref (mo + 12)) (C := "MacroReckonerModel") (T := TMo) (N := 23) hx hb hts inMo hown hK hP 0 rfl rfl 21 (by decide) (hts _ wt4_79) (fun _ h9 => h9) rfl dMo_decrease_74 ?_
            refine lv_sipush (v := iI 340) hx hb dMo_decrease_77 (by decide) ?_
            refine lv_iload_n hx hb dMo_decrease_80 rfl (lv_at hl 4 rfl) ?_
            refine iv_imul hx hb dMo_decrease_81 ?_
            refine lv_iload hx hb dMo_decrease_82 (lv_at hl 2 rfl) ?_
            refine iv_iadd hx hb dMo_decrease_84 ?_
            refine lv_iload hx hb dMo_decrease_85 (lv_at hl 1 rfl) ?_
            refine iv_if_ge (tgt := 98) hx hb dMo_decrease_87 (by decide) ⟨by omega, by omega⟩ (fun hc87 => ?_) (fun hc87 => absurd hc87 (by omega))
            refine lv_iload hx hb dMo_decrease_98 (lv_at hl 1 rfl) ?_
            refine iv_iast (v := vv) hx hb hK hP hD hS 12 0 rfl rfl (by decide) dMo_decrease_100 (by omega) (by omega) (fun H locs hP hD hS => ?_)
            have hP : va_P (dC, dI) vwCl (wMo dA mo ft lf hg kk tx pn tk fm tO tl mI mT mS mC mL mB mF mU mX mP mK (up D9 ((340 * i) + d) vv) mZ []) H := hP
            have hD : va_D A (wMo dA mo ft lf hg kk tx pn tk fm tO tl mI mT mS mC mL mB mF mU mX mP mK (up D9 ((340 * i) + d) vv) mZ []) := hD
            refine lv_iinc (k := 2) (lv' := [(4, .int (iI (d + 1))), (3, .int (iI 0)), (5, .int (iI vv)), (0, .ref mo), (1, .int (iI i)), (2, .int (iI j))]) (v := iI (d + 1)) hx hb dMo_decrease_101 hl rfl (iI_add _ _).symm (by decide) rfl (fun ls hl => ?_)
            refine lv_goto (tgt := 5) hx hb dMo_decrease_104 (by decide) ?_
            exact ih5 (up D9 ((340 * i) + d) vv) 0 (d + 1) H locs ls (by omega) (by exact md_s hJ hdi hy1 ⟨hy2, hy3⟩ (by omega)) (by omega) hP hD hS (lv_sub hl [0, 1, 3, 4, 5] rfl)
          · refine lv_iconst (v := iI 1) hx hb dMo_decrease_67 rfl ?_
            refine lv_goto (tgt := 72) hx hb dMo_decrease_68 (by decide) ?_
            refine lv_istore_n (lv' := [(3, .int (iI 1)), (5, .int (iI vv)), (4, .int (iI d)), (0, .ref mo), (1, .int (iI i)), (2, .int (iI j))]) hx hb dMo_decrease_72 rfl hl (by decide) rfl (fun ls hl => ?_)
            refine lv_aload_n hx hb dMo_decrease_73 rfl (lv_at hl 3 rfl) ?_
            refine va_get (D := (dC, dI)) (ci := 7) (v := .ref (mo + 12)) (C := "MacroReckonerModel") (T := TMo) (N := 23) hx hb hts inMo hown hK hP 0 rfl rfl 21 (by decide) (hts _ wt4_79) (fun _ h9 => h9) rfl dMo_decrease_74 ?_
            refine lv_sipush (v := iI 340) hx hb dMo_decrease_77 (by decide) ?_
            refine lv_iload_n hx hb dMo_decrease_80 rfl (lv_at hl 4 rfl) ?_
            refine iv_imul hx hb dMo_decrease_81 ?_
            refine lv_iload hx hb dMo_decrease_82 (lv_at hl 2 rfl) ?_
            refine iv_iadd hx hb dMo_decrease_84 ?_
            refine lv_iload hx hb dMo_decrease_85 (lv_at hl 1 rfl) ?_
            refine iv_if_ge (tgt := 98) hx hb dMo_decrease_87 (by decide) ⟨by omega, by omega⟩ (fun hc87 => absurd hc87 (by omega)) (fun hc87 => ?_)
            refine lv_iload hx hb dMo_decrease_90 (lv_at hl 1 rfl) ?_
            refine lv_bipush (v := iI 10) hx hb dMo_decrease_92 (by decide) ?_
            refine iv_iadd hx hb dMo_decrease_94 ?_
            refine lv_goto (tgt := 100) hx hb dMo_decrease_95 (by decide) ?_
            refine iv_iast (v := vv + 10) hx hb hK hP hD hS 12 0 rfl rfl (by decide) dMo_decrease_100 (by omega) (by omega) (fun H locs hP hD hS => ?_)
            have hP : va_P (dC, dI) vwCl (wMo dA mo ft lf hg kk tx pn tk fm tO tl mI mT mS mC mL mB mF mU mX mP mK (up D9 ((340 * i) + d) (vv + 10)) mZ []) H := hP
            have hD : va_D A (wMo dA mo ft lf hg kk tx pn tk fm tO tl mI mT mS mC mL mB mF mU mX mP mK (up D9 ((340 * i) + d) (vv + 10)) mZ []) := hD
            refine lv_iinc (k := 2) (lv' := [(4, .int (iI (d + 1))), (3, .int (iI 1)), (5, .int (iI vv)), (0, .ref mo), (1, .int (iI i)), (2, .int (iI j))]) (v := iI (d + 1)) hx hb dMo_decrease_101 hl rfl (iI_add _ _).symm (by decide) rfl (fun ls hl => ?_)
            refine lv_goto (tgt := 5) hx hb dMo_decrease_104 (by decide) ?_
            exact ih5 (up D9 ((340 * i) + d) (vv + 10)) 1 (d + 1) H locs ls (by omega) (by exact md_s hJ hdi hy1 ⟨hy2, hy3⟩ (by omega)) (by omega) hP hD hS (lv_sub hl [0, 1, 3, 4, 5] rfl)
        · have hgj := hJ.2.2.2.2.1 (340 * j + d) (by omega)
          have hdj := hM2.1.2.1 d (by omega) (by omega)
          refine lv_aload_n hx hb dMo_decrease_42 rfl (lv_at hl 2 rfl) ?_
          refine va_get (D := (dC, dI)) (ci := 7) (v := .ref (mo + 12)) (C := "MacroReckonerModel") (T := TMo) (N := 23) hx hb hts inMo hown hK hP 0 rfl rfl 21 (by decide) (hts _ wt4_79) (fun _ h9 => h9) rfl dMo_decrease_43 ?_
          refine lv_sipush (v := iI 340) hx hb dMo_decrease_46 (by decide) ?_
          refine lv_iload_n hx hb dMo_decrease_49 rfl (lv_at hl 4 rfl) ?_
          refine iv_imul hx hb dMo_decrease_50 ?_
          refine lv_iload hx hb dMo_decrease_51 (lv_at hl 0 rfl) ?_
          refine iv_iadd hx hb dMo_decrease_53 ?_
          refine iv_iald hx hb hK hP 12 0 rfl rfl (by decide) dMo_decrease_54 (by omega) (by omega) ?_
          refine lv_goto (tgt := 59) hx hb dMo_decrease_55 (by decide) ?_
          refine iv_isub hx hb dMo_decrease_59 ?_
          refine lv_istore (lv' := [(5, .int (iI (((D9 ((340 * i) + d)) - bw) - (D9 ((340 * j) + d))))), (4, .int (iI d)), (3, .int (iI bw)), (0, .ref mo), (1, .int (iI i)), (2, .int (iI j))]) hx hb dMo_decrease_60 hl (by decide) rfl (fun ls hl => ?_)
          obtain ⟨vv, e_vv⟩ : ∃ z : Int, z = ((D9 ((340 * i) + d)) - bw) - (D9 ((340 * j) + d)) := ⟨_, rfl⟩
          have hl : lv_has ls 6 [(5, .int (iI vv)), (4, .int (iI d)), (3, .int (iI bw)), (0, .ref mo), (1, .int (iI i)), (2, .int (iI j))] := by rw [e_vv]; exact hl
          have hyy : ∃ y, y = ze (sh mD (340 * j)) (mZ j) d ∧ 0 ≤ y ∧ y ≤ 9 ∧ vv = D9 (340 * i + d) - bw - y := by rw [e_vv]; first | exact ⟨D9 (340 * j + d), by rw [ze_in hc39, hgj]; rfl, by omega, by omega, rfl⟩ | exact ⟨0, by rw [ze_out hc39], by omega, by omega, rfl⟩
          obtain ⟨y9, hy1, hy2, hy3, hy4⟩ := hyy
          refine lv_iload hx hb dMo_decrease_62 (lv_at hl 0 rfl) ?_
          refine iv_if_ge (tgt := 71) hx hb dMo_decrease_64 (by decide) ⟨by omega, by omega⟩ (fun hc64 => ?_) (fun hc64 => ?_)
          · refine lv_iconst (v := iI 0) hx hb dMo_decrease_71 rfl ?_
            refine lv_istore_n (lv' := [(3, .int (iI 0)), (5, .int (iI vv)), (4, .int (iI d)), (0, .ref mo), (1, .int (iI i)), (2, .int (iI j))]) hx hb dMo_decrease_72 rfl hl (by decide) rfl (fun ls hl => ?_)
            refine lv_aload_n hx hb dMo_decrease_73 rfl (lv_at hl 3 rfl) ?_
            refine va_get (D := (dC, dI)) (ci := 7) (v := .ref (mo + 12)) (C := "MacroReckonerModel") (T := TMo) (N := 23) hx hb hts inMo hown hK hP 0 rfl rfl 21 (by decide) (hts _ wt4_79) (fun _ h9 => h9) rfl dMo_decrease_74 ?_
            refine lv_sipush (v := iI 340) hx hb dMo_decrease_77 (by decide) ?_
            refine lv_iload_n hx hb dMo_decrease_80 rfl (lv_at hl 4 rfl) ?_
            refine iv_imul hx hb dMo_decrease_81 ?_
            refine lv_iload hx hb dMo_decrease_82 (lv_at hl 2 rfl) ?_
            refine iv_iadd hx hb dMo_decrease_84 ?_
            refine lv_iload hx hb dMo_decrease_85 (lv_at hl 1 rfl) ?_
            refine iv_if_ge (tgt := 98) hx hb dMo_decrease_87 (by decide) ⟨by omega, by omega⟩ (fun hc87 => ?_) (fun hc87 => absurd hc87 (by omega))
            refine lv_iload hx hb dMo_decrease_98 (lv_at hl 1 rfl) ?_
            refine iv_iast (v := vv) hx hb hK hP hD hS 12 0 rfl rfl (by decide) dMo_decrease_100 (by omega) (by omega) (fun H locs hP hD hS => ?_)
            have hP : va_P (dC, dI) vwCl (wMo dA mo ft lf hg kk tx pn tk fm tO tl mI mT mS mC mL mB mF mU mX mP mK (up D9 ((340 * i) + d) vv) mZ []) H := hP
            have hD : va_D A (wMo dA mo ft lf hg kk tx pn tk fm tO tl mI mT mS mC mL mB mF mU mX mP mK (up D9 ((340 * i) + d) vv) mZ []) := hD
            refine lv_iinc (k := 2) (lv' := [(4, .int (iI (d + 1))), (3, .int (iI 0)), (5, .int (iI vv)), (0, .ref mo), (1, .int (iI i)), (2, .int (iI j))]) (v := iI (d + 1)) hx hb dMo_decrease_101 hl rfl (iI_add _ _).symm (by decide) rfl (fun ls hl => ?_)
            refine lv_goto (tgt := 5) hx hb dMo_decrease_104 (by decide) ?_
            exact ih5 (up D9 ((340 * i) + d) vv) 0 (d + 1) H locs ls (by omega) (by exact md_s hJ hdi hy1 ⟨hy2, hy3⟩ (by omega)) (by omega) hP hD hS (lv_sub hl [0, 1, 3, 4, 5] rfl)
          · refine lv_iconst (v := iI 1) hx hb dMo_decrease_67 rfl ?_
            refine lv_goto (tgt := 72) hx hb dMo_decrease_68 (by decide) ?_
            refine lv_istore_n (lv' := [(3, .int (iI 1)), (5, .int (iI vv)), (4, .int (iI d)), (0, .ref mo), (1, .int (iI i)), (2, .int (iI j))]) hx hb dMo_decrease_72 rfl hl (by decide) rfl (fun ls hl => ?_)
            refine lv_aload_n hx hb dMo_decrease_73 rfl (lv_at hl 3 rfl) ?_
            refine va_get (D := (dC, dI)) (ci := 7) (v := .ref (mo + 12)) (C := "MacroReckonerModel") (T := TMo) (N := 23) hx hb hts inMo hown hK hP 0 rfl rfl 21 (by decide) (hts _ wt4_79) (fun _ h9 => h9) rfl dMo_decrease_74 ?_
            refine lv_sipush (v := iI 340) hx hb dMo_decrease_77 (by decide) ?_
            refine lv_iload_n hx hb dMo_decrease_80 rfl (lv_at hl 4 rfl) ?_
            refine iv_imul hx hb dMo_decrease_81 ?_
            refine lv_iload hx hb dMo_decrease_82 (lv_at hl 2 rfl) ?_
            refine iv_iadd hx hb dMo_decrease_84 ?_
            refine lv_iload hx hb dMo_decrease_85 (lv_at hl 1 rfl) ?_
            refine iv_if_ge (tgt := 98) hx hb dMo_decrease_87 (by decide) ⟨by omega, by omega⟩ (fun hc87 => absurd hc87 (by omega)) (fun hc87 => ?_)
            refine lv_iload hx hb dMo_decrease_90 (lv_at hl 1 rfl) ?_
            refine lv_bipush (v := iI 10) hx hb dMo_decrease_92 (by decide) ?_
            refine iv_iadd hx hb dMo_decrease_94 ?_
            refine lv_goto (tgt := 100) hx hb dMo_decrease_95 (by decide) ?_
            refine iv_iast (v := vv + 10) hx hb hK hP hD hS 12 0 rfl rfl (by decide) dMo_decrease_100 (by omega) (by omega) (fun H locs hP hD hS => ?_)
            have hP : va_P (dC, dI) vwCl (wMo dA mo ft lf hg kk tx pn tk fm tO tl mI mT mS mC mL mB mF mU mX mP mK (up D9 ((340 * i) + d) (vv + 10)) mZ []) H := hP
            have hD : va_D A (wMo dA mo ft lf hg kk tx pn tk fm tO tl mI mT mS mC mL mB mF mU mX mP mK (up D9 ((340 * i) + d) (vv + 10)) mZ []) := hD
            refine lv_iinc (k := 2) (lv' := [(4, .int (iI (d + 1))), (3, .int (iI 1)), (5, .int (iI vv)), (0, .ref mo), (1, .int (iI i)), (2, .int (iI j))]) (v := iI (d + 1)) hx hb dMo_decrease_101 hl rfl (iI_add _ _).symm (by decide) rfl (fun ls hl => ?_)
            refine lv_goto (tgt := 5) hx hb dMo_decrease_104 (by decide) ?_
            exact ih5 (up D9 ((340 * i) + d) (vv + 10)) 1 (d + 1) H locs ls (by omega) (by exact md_s hJ hdi hy1 ⟨hy2, hy3⟩ (by omega)) (by omega) hP hD hS (lv_sub hl [0, 1, 3, 4, 5] rfl)
  exact L5 _ mD 0 0 H locs ls (by omega) (by exact md_0) (Nat.lt_succ_self _) hP hD hS (lv_sub hl [0, 1, 2, 3, 4] rfl)
