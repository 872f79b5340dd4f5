theorem dMr_whatIsMissing_0 : decode prog_1_method_17_code 0 = .ok (.ldc 137, 2) := by decide +kernel
theorem dMr_whatIsMissing_2 : decode prog_1_method_17_code 2 = .ok (.iload_n 1, 1) := by decide +kernel
theorem dMr_whatIsMissing_3 : decode prog_1_method_17_code 3 = .ok (.invokevirtual 139, 3) := by decide +kernel
theorem dMr_whatIsMissing_6 : decode prog_1_method_17_code 6 = .ok (.ifCond .lt 7, 3) := by decide +kernel
theorem dMr_whatIsMissing_9 : decode prog_1_method_17_code 9 = .ok (.iconst 2, 1) := by decide +kernel
theorem dMr_whatIsMissing_10 : decode prog_1_method_17_code 10 = .ok (.goto 17, 3) := by decide +kernel
theorem dMr_whatIsMissing_13 : decode prog_1_method_17_code 13 = .ok (.ldc 145, 2) := by decide +kernel
theorem dMr_whatIsMissing_15 : decode prog_1_method_17_code 15 = .ok (.iload_n 1, 1) := by decide +kernel
theorem dMr_whatIsMissing_16 : decode prog_1_method_17_code 16 = .ok (.invokevirtual 139, 3) := by decide +kernel
theorem dMr_whatIsMissing_19 : decode prog_1_method_17_code 19 = .ok (.ifCond .lt 7, 3) := by decide +kernel
theorem dMr_whatIsMissing_22 : decode prog_1_method_17_code 22 = .ok (.iconst 1, 1) := by decide +kernel
theorem dMr_whatIsMissing_23 : decode prog_1_method_17_code 23 = .ok (.goto 4, 3) := by decide +kernel
theorem dMr_whatIsMissing_26 : decode prog_1_method_17_code 26 = .ok (.iconst 0, 1) := by decide +kernel
theorem dMr_whatIsMissing_27 : decode prog_1_method_17_code 27 = .ok (.istore_n 2, 1) := by decide +kernel
theorem dMr_whatIsMissing_28 : decode prog_1_method_17_code 28 = .ok (.aload_n 0, 1) := by decide +kernel
theorem dMr_whatIsMissing_29 : decode prog_1_method_17_code 29 = .ok (.getfield 39, 3) := by decide +kernel
theorem dMr_whatIsMissing_32 : decode prog_1_method_17_code 32 = .ok (.iload_n 2, 1) := by decide +kernel
theorem dMr_whatIsMissing_33 : decode prog_1_method_17_code 33 = .ok (.if_icmp .ge 6, 3) := by decide +kernel
theorem dMr_whatIsMissing_36 : decode prog_1_method_17_code 36 = .ok (.bipush (-2), 2) := by decide +kernel
theorem dMr_whatIsMissing_38 : decode prog_1_method_17_code 38 = .ok (.ireturn, 1) := by decide +kernel
theorem dMr_whatIsMissing_39 : decode prog_1_method_17_code 39 = .ok (.ldc 147, 2) := by decide +kernel
theorem dMr_whatIsMissing_41 : decode prog_1_method_17_code 41 = .ok (.iload_n 1, 1) := by decide +kernel
theorem dMr_whatIsMissing_42 : decode prog_1_method_17_code 42 = .ok (.invokevirtual 139, 3) := by decide +kernel
theorem dMr_whatIsMissing_45 : decode prog_1_method_17_code 45 = .ok (.ifCond .lt 39, 3) := by decide +kernel
theorem dMr_whatIsMissing_48 : decode prog_1_method_17_code 48 = .ok (.aload_n 0, 1) := by decide +kernel
theorem dMr_whatIsMissing_49 : decode prog_1_method_17_code 49 = .ok (.getfield 39, 3) := by decide +kernel
theorem dMr_whatIsMissing_52 : decode prog_1_method_17_code 52 = .ok (.iload_n 2, 1) := by decide +kernel
theorem dMr_whatIsMissing_53 : decode prog_1_method_17_code 53 = .ok (.isub, 1) := by decide +kernel
theorem dMr_whatIsMissing_54 : decode prog_1_method_17_code 54 = .ok (.istore_n 3, 1) := by decide +kernel
theorem dMr_whatIsMissing_55 : decode prog_1_method_17_code 55 = .ok (.iload_n 3, 1) := by decide +kernel
theorem dMr_whatIsMissing_56 : decode prog_1_method_17_code 56 = .ok (.aload_n 0, 1) := by decide +kernel
theorem dMr_whatIsMissing_57 : decode prog_1_method_17_code 57 = .ok (.getfield 39, 3) := by decide +kernel
theorem dMr_whatIsMissing_60 : decode prog_1_method_17_code 60 = .ok (.if_icmp .ge 24, 3) := by decide +kernel
theorem dMr_whatIsMissing_63 : decode prog_1_method_17_code 63 = .ok (.aload_n 0, 1) := by decide +kernel
theorem dMr_whatIsMissing_64 : decode prog_1_method_17_code 64 = .ok (.getfield 35, 3) := by decide +kernel
theorem dMr_whatIsMissing_67 : decode prog_1_method_17_code 67 = .ok (.iload_n 3, 1) := by decide +kernel
theorem dMr_whatIsMissing_68 : decode prog_1_method_17_code 68 = .ok (.aaload, 1) := by decide +kernel
theorem dMr_whatIsMissing_69 : decode prog_1_method_17_code 69 = .ok (.getfield 107, 3) := by decide +kernel
theorem dMr_whatIsMissing_72 : decode prog_1_method_17_code 72 = .ok (.ifCond .eq 6, 3) := by decide +kernel
theorem dMr_whatIsMissing_75 : decode prog_1_method_17_code 75 = .ok (.bipush (-3), 2) := by decide +kernel
theorem dMr_whatIsMissing_77 : decode prog_1_method_17_code 77 = .ok (.ireturn, 1) := by decide +kernel
theorem dMr_whatIsMissing_78 : decode prog_1_method_17_code 78 = .ok (.iinc 3 1, 3) := by decide +kernel
theorem dMr_whatIsMissing_81 : decode prog_1_method_17_code 81 = .ok (.goto (-26), 3) := by decide +kernel
theorem dMr_whatIsMissing_84 : decode prog_1_method_17_code 84 = .ok (.iconst 0, 1) := by decide +kernel
theorem dMr_whatIsMissing_85 : decode prog_1_method_17_code 85 = .ok (.ireturn, 1) := by decide +kernel
abbrev qMr_whatIsMissing (dC : Nat → ClassId) (dI : Nat → Nat → Nat) (dA : Nat → ClassId) (dS : Nat → Nat) (b : Nat) (tr : Int) (hg : Int) (wk : Int) (at_ : Int) (en : Int) (cm : Int) (rg : Int) (st0 : Int) (en0 : Int) (lg : Int) (tR : Int) (ngR : Int) (scR : Int) (lnR : Int) (uR : Int) (lu : Int) (ru : Int) (su : Int) (qu : Int) (pl : Int) (rv : Value) (si : Int → Nat) (D : Int → Int) (CR : Int → Int) (FR : Int → Int) (LF : Int → Int) (RF : Int → Int) (SF : Int → Int) (QF : Int → Int) (P : Int → Int) (vs : Nat → VS) (tp : Nat → TS) (ad : Nat → Nat) (st : AS) (c0 : Int) (A : Nat → Prop) : Array Value → State → Outcome → State → Prop := QI (dC, dI) vwCl (tyA dA) (fun (r : Int) (v_ : Unit) => r = missA st c0) (fun (v_ : Unit) => wMr dA b tr hg wk at_ en cm rg st0 en0 lg tR ngR scR lnR uR lu ru su qu pl rv si D CR FR LF RF SF QF P (tl0 dA b vs tp)) A
abbrev rmMr_whatIsMissing : Room := { frames := 4, cells := 0, slots := 0, locals := 91 }
set_option maxRecDepth 100000 in
set_option maxHeartbeats 1000000 in
theorem cMr_whatIsMissing (l : Launch) (dC : Nat → ClassId) (dI : Nat → Nat → Nat) (dA : Nat → ClassId) (dS : Nat → Nat) (b : Nat) (tr : Int) (hg : Int) (wk : Int) (at_ : Int) (en : Int) (cm : Int) (rg : Int) (st0 : Int) (en0 : Int) (lg : Int) (tR : Int) (ngR : Int) (scR : Int) (lnR : Int) (uR : Int) (lu : Int) (ru : Int) (su : Int) (qu : Int) (pl : Int) (rv : Value) (si : Int → Nat) (D : Int → Int) (CR : Int → Int) (FR : Int → Int) (LF : Int → Int) (RF : Int → Int) (SF : Int → Int) (QF : Int → Int) (P : Int → Int) (vs : Nat → VS) (tp : Nat → TS) (ad : Nat → Nat) (st : AS) (c0 : Int) (hCH : CH si vs hg wk st) (hc0 : 0 ≤ c0 ∧ c0 < 65536) (sz : Nat) : Met l yMr_whatIsMissing wsMr_whatIsMissing rmMr_whatIsMissing (PC (dC, dI) vwCl (tyA dA) (XM dS ad) [.ref b, .int (iI c0)] (wMr dA b tr hg wk at_ en cm rg st0 en0 lg tR ngR scR lnR uR lu ru su qu pl rv si D CR FR LF RF SF QF P (tl0 dA b vs tp)) sz) (qMr_whatIsMissing dC dI dA dS b tr hg wk at_ en cm rg st0 en0 lg tR ngR scR lnR uR lu ru su qu pl rv si D CR FR LF RF SF QF P vs tp ad st c0 (va_A (wMr dA b tr hg wk at_ en cm rg st0 en0 lg tR ngR scR lnR uR lu ru su qu pl rv si D CR FR LF RF SF QF P (tl0 dA b vs tp)) sz)) 0 0 (va_A (wMr dA b tr hg wk at_ en cm rg st0 en0 lg tR ngR scR lnR uR lu ru su qu pl rv si D CR FR LF RF SF QF P (tl0 dA b vs tp)) sz) := by
  refine met_of (cc := prog_1_method_17_code) (maxL := 4) (ret := (some .int)) (Qc := qMr_whatIsMissing dC dI dA dS b tr hg wk at_ en cm rg st0 en0 lg tR ngR scR lnR uR lu ru su qu pl rv si D CR FR LF RF SF QF P vs tp ad st c0) (XM_ok dS ad) (by decide) rfl (Nat.le_of_ble_eq_true rfl) ?_
  intro p e s m below meth c ls A hx hb hr hml hown hts hlocks hnm hK hP hD hA hX hS hl
  have hl : lv_has ls 4 [(0, .ref b), (1, .int (iI c0))] := hl
  have hown : s.vm.findClass "MacroReckoner" = some m.cls := hown
  obtain ⟨H, hH⟩ : ∃ H : Heap, H = s.heap := ⟨_, rfl⟩
  obtain ⟨locs, hlo⟩ : ∃ L : List Loc, L = [] := ⟨_, rfl⟩
  have hP : va_P (dC, dI) vwCl (wMr dA b tr hg wk at_ en cm rg st0 en0 lg tR ngR scR lnR uR lu ru su qu pl rv si D CR FR LF RF SF QF P (tl0 dA b vs tp)) H := hH ▸ hP
  have hS : va_S A s.heap H locs := by rw [hH, hlo]; exact hS
  suffices hgo : W p l e rmMr_whatIsMissing s m [.ref b, .int (iI c0)].toArray below meth c H locs 0 0 (MQ below (qMr_whatIsMissing dC dI dA dS b tr hg wk at_ en cm rg st0 en0 lg tR ngR scR lnR uR lu ru su qu pl rv si D CR FR LF RF SF QF P vs tp ad st c0 A) [.ref b, .int (iI c0)].toArray s 0 0 A) (F0 m 0 ls []) by rw [hH, hlo] at hgo; exact hgo
  clear hH hlo
  have hh := hCH.1
  refine va_ldcS hx hb hown hX.2.2.2.1 dMr_whatIsMissing_0 ?_
  refine lv_iload_n hx hb dMr_whatIsMissing_2 rfl (lv_at hl 1 rfl) ?_
  refine cvT_i (we := wMr dA b tr hg wk at_ en cm rg st0 en0 lg tR ngR scR lnR uR lu ru su qu pl rv si D CR FR LF RF SF QF P []) (tl := tl0 dA b vs tp) (va_runV (C := "java/lang/String") (As := [.int (iI c0)]) (rest := []) ⟨hx, hb, hml, hown, hts⟩ (cJs_indexOf_0 l dC dI dA ad 0 c0 (by decide) (by exact hc0) H.size) (cwV 1 hts (gdV wt2_149 wt2_150 wt2_151 wt1_14 wt2_152) rfl rfl rfl ⟨rfl, by decide, by decide, by decide +kernel⟩ ⟨by decide, by decide⟩) (preK hK hP hD hS hA (XS_ok ad) hX.2 (vk_recv hX.2.2.1 (i := 0) (by decide) hS)) rfl rfl hl.1 rfl (lv_room (Nat.le_of_ble_eq_true rfl)) dMr_whatIsMissing_3 ⟨Nat.zero_le _, Nat.zero_le _⟩) hP hD hS hA [] [0, 1, 2, 3, 4, 5, 6, 7, 8, 9, 10, 11, 12, 13, 14, 15, 16, 17, 18, 19, 20, 21] rfl (fun v_ => wMr dA b tr hg wk at_ en cm rg st0 en0 lg tR ngR scR lnR uR lu ru su qu pl rv si D CR FR LF RF SF QF P []) (fun _ => rfl) (wMr dA b tr hg wk at_ en cm rg st0 en0 lg tR ngR scR lnR uR lu ru su qu pl rv si D CR FR LF RF SF QF P []) rfl (fun _ => rfl) [b, b + 1, b + 2, b + 3, b + 4, b + 5, b + 6, b + 7, b + 8, b + 9, b + 10, b + 11, b + 12, b + 13, b + 14, b + 15, b + 16, b + 17, b + 18, b + 19, b + 20, b + 21] rfl (fun _ => rfl) (fun _ => rfl) (fun r3 u_ H locs hq3 hP hD hS => ?_)
  have hP : va_P (dC, dI) vwCl (wMr dA b tr hg wk at_ en cm rg st0 en0 lg tR ngR scR lnR uR lu ru su qu pl rv si D CR FR LF RF SF QF P (tl0 dA b vs tp)) H := hP
  have hD : va_D A (wMr dA b tr hg wk at_ en cm rg st0 en0 lg tR ngR scR lnR uR lu ru su qu pl rv si D CR FR LF RF SF QF P (tl0 dA b vs tp)) := hD
  have hq3 : (0 ≤ r3 ∧ r3 ≤ 100 ∧ inS 0 c0) ∨ (r3 = -1 ∧ ¬ inS 0 c0) := hq3
  have J28 : ∀ (nd : Int) (H : Heap) (locs : List Loc) (ls : Array Slot), (nd = need c0) → va_P (dC, dI) vwCl (wMr dA b tr hg wk at_ en cm rg st0 en0 lg tR ngR scR lnR uR lu ru su qu pl rv si D CR FR LF RF SF QF P (tl0 dA b vs tp)) H → va_D A (wMr dA b tr hg wk at_ en cm rg st0 en0 lg tR ngR scR lnR uR lu ru su qu pl rv si D CR FR LF RF SF QF P (tl0 dA b vs tp)) → va_S A s.heap H locs → lv_has ls 4 [(0, .ref b), (1, .int (iI c0)), (2, .int (iI nd))] → W p l e rmMr_whatIsMissing s m [.ref b, .int (iI c0)].toArray below meth c H locs 0 0 (MQ below (qMr_whatIsMissing dC dI dA dS b tr hg wk at_ en cm rg st0 en0 lg tR ngR scR lnR uR lu ru su qu pl rv si D CR FR LF RF SF QF P vs tp ad st c0 A) [.ref b, .int (iI c0)].toArray s 0 0 A) (F0 m 28 ls []) := by
    intro nd H locs ls hnd hP hD hS hl
    have hn9 : 0 ≤ nd ∧ nd ≤ 2 := by rw [hnd]; unfold need; split; decide; split <;> decide
    refine lv_aload_n hx hb dMr_whatIsMissing_28 rfl (lv_at hl 0 rfl) ?_
    refine va_get (D := (dC, dI)) (ci := 6) (v := .int (iI hg)) (C := "MacroReckoner") (T := TMr) (N := 11) hx hb hts inMr hown hK hP 0 rfl rfl 5 (by decide) (hts _ wt1_178) (fun _ h9 => h9) rfl dMr_whatIsMissing_29 ?_
    refine lv_iload_n hx hb dMr_whatIsMissing_32 rfl (lv_at hl 2 rfl) ?_
    refine iv_icmp_ge (tgt := 39) hx hb dMr_whatIsMissing_33 (by decide) ⟨by omega, by omega⟩ ⟨by omega, by omega⟩ (fun hc33 => ?_) (fun hc33 => ?_)
    · refine va_ldcS hx hb hown hX.2.2.2.2.2 dMr_whatIsMissing_39 ?_
      refine lv_iload_n hx hb dMr_whatIsMissing_41 rfl (lv_at hl 1 rfl) ?_
      refine cvT_i (we := wMr dA b tr hg wk at_ en cm rg st0 en0 lg tR ngR scR lnR uR lu ru su qu pl rv si D CR FR LF RF SF QF P []) (tl := tl0 dA b vs tp) (va_runV (C := "java/lang/String") (As := [.int (iI c0)]) (rest := []) ⟨hx, hb, hml, hown, hts⟩ (cJs_indexOf_0 l dC dI dA ad 2 c0 (by decide) (by exact hc0) H.size) (cwV 1 hts (gdV wt2_149 wt2_150 wt2_151 wt1_14 wt2_152) rfl rfl rfl ⟨rfl, by decide, by decide, by decide +kernel⟩ ⟨by decide, by decide⟩) (preK hK hP hD hS hA (XS_ok ad) hX.2 (vk_recv hX.2.2.1 (i := 2) (by decide) hS)) rfl rfl hl.1 rfl (lv_room (Nat.le_of_ble_eq_true rfl)) dMr_whatIsMissing_42 ⟨Nat.zero_le _, Nat.zero_le _⟩) hP hD hS hA [] [0, 1, 2, 3, 4, 5, 6, 7, 8, 9, 10, 11, 12, 13, 14, 15, 16, 17, 18, 19, 20, 21] rfl (fun v_ => wMr dA b tr hg wk at_ en cm rg st0 en0 lg tR ngR scR lnR uR lu ru su qu pl rv si D CR FR LF RF SF QF P []) (fun _ => rfl) (wMr dA b tr hg wk at_ en cm rg st0 en0 lg tR ngR scR lnR uR lu ru su qu pl rv si D CR FR LF RF SF QF P []) rfl (fun _ => rfl) [b, b + 1, b + 2, b + 3, b + 4, b + 5, b + 6, b + 7, b + 8, b + 9, b + 10, b + 11, b + 12, b + 13, b + 14, b + 15, b + 16, b + 17, b + 18, b + 19, b + 20, b + 21] rfl (fun _ => rfl) (fun _ => rfl) (fun r42 u_ H locs hq42 hP hD hS => ?_)
      have hP : va_P (dC, dI) vwCl (wMr dA b tr hg wk at_ en cm rg st0 en0 lg tR ngR scR lnR uR lu ru su qu pl rv si D CR FR LF RF SF QF P (tl0 dA b vs tp)) H := hP
      have hD : va_D A (wMr dA b tr hg wk at_ en cm rg st0 en0 lg tR ngR scR lnR uR lu ru su qu pl rv si D CR FR LF RF SF QF P (tl0 dA b vs tp)) := hD
      have hq42 : (0 ≤ r42 ∧ r42 ≤ 100 ∧ inS 2 c0) ∨ (r42 = -1 ∧ ¬ inS 2 c0) := hq42
      refine iv_if_lt (tgt := 84) hx hb dMr_whatIsMissing_45 (by decide) ⟨by omega, by omega⟩ (fun hc45 => ?_) (fun hc45 => ?_)
      · refine lv_iconst (v := iI 0) hx hb dMr_whatIsMissing_84 rfl ?_
        exact rt_i hx hb hr hlocks hK hS dMr_whatIsMissing_85 () hP hD (show 0 = missA st c0 from by first | exact (miss_0 (by omega) (fun z => absurd (in_2.mpr z) (hq42.resolve_left (fun w => by omega)).2)).symm | exact (miss_0 (by omega) (fun _ j x y => hno j (by omega) (by omega))).symm)
      · have hnu : nums c0 := in_2.mp (hq42.resolve_right (fun z => by omega)).2.2
        refine lv_aload_n hx hb dMr_whatIsMissing_48 rfl (lv_at hl 0 rfl) ?_
        refine va_get (D := (dC, dI)) (ci := 6) (v := .int (iI hg)) (C := "MacroReckoner") (T := TMr) (N := 11) hx hb hts inMr hown hK hP 0 rfl rfl 5 (by decide) (hts _ wt1_178) (fun _ h9 => h9) rfl dMr_whatIsMissing_49 ?_
        refine lv_iload_n hx hb dMr_whatIsMissing_52 rfl (lv_at hl 2 rfl) ?_
        refine iv_isub hx hb dMr_whatIsMissing_53 ?_
        refine lv_istore_n (lv' := [(3, .int (iI (hg - nd))), (0, .ref b), (1, .int (iI c0)), (2, .int (iI nd))]) hx hb dMr_whatIsMissing_54 rfl hl (by decide) rfl (fun ls hl => ?_)
        have L55 : ∀ (n : Nat) (i9 : Int) (H : Heap) (locs : List Loc) (ls : Array Slot), (hg - nd ≤ i9 ∧ i9 ≤ hg) → (∀ j, hg - nd ≤ j → j < i9 → (st.stk j).t ≠ 1) → (hg - i9).toNat < n → va_P (dC, dI) vwCl (wMr dA b tr hg wk at_ en cm rg st0 en0 lg tR ngR scR lnR uR lu ru su qu pl rv si D CR FR LF RF SF QF P (tl0 dA b vs tp)) H → va_D A (wMr dA b tr hg wk at_ en cm rg st0 en0 lg tR ngR scR lnR uR lu ru su qu pl rv si D CR FR LF RF SF QF P (tl0 dA b vs tp)) → va_S A s.heap H locs → lv_has ls 4 [(3, .int (iI i9)), (0, .ref b), (1, .int (iI c0)), (2, .int (iI nd))] → W p l e rmMr_whatIsMissing s m [.ref b, .int (iI c0)].toArray below meth c H locs 0 0 (MQ below (qMr_whatIsMissing dC dI dA dS b tr hg wk at_ en cm rg st0 en0 lg tR ngR scR lnR uR lu ru su qu pl rv si D CR FR LF RF SF QF P vs tp ad st c0 A) [.ref b, .int (iI c0)].toArray s 0 0 A) (F0 m 55 ls []) := by
          intro n
          induction n with
          | zero => intro i9 H locs ls hi9 hno hn; omega
          | succ n ih =>
            intro i9 H locs ls hi9 hno hn hP hD hS hl
            have ih55 := ih
            refine lv_iload_n hx hb dMr_whatIsMissing_55 rfl (lv_at hl 0 rfl) ?_
            refine lv_aload_n hx hb dMr_whatIsMissing_56 rfl (lv_at hl 1 rfl) ?_
            refine va_get (D := (dC, dI)) (ci := 6) (v := .int (iI hg)) (C := "MacroReckoner") (T := TMr) (N := 11) hx hb hts inMr hown hK hP 0 rfl rfl 5 (by decide) (hts _ wt1_178) (fun _ h9 => h9) rfl dMr_whatIsMissing_57 ?_
            refine iv_icmp_ge (tgt := 84) hx hb dMr_whatIsMissing_60 (by decide) ⟨by omega, by omega⟩ ⟨by omega, by omega⟩ (fun hc60 => ?_) (fun hc60 => ?_)
            · refine lv_iconst (v := iI 0) hx hb dMr_whatIsMissing_84 rfl ?_
              exact rt_i hx hb hr hlocks hK hS dMr_whatIsMissing_85 () hP hD (show 0 = missA st c0 from by first | exact (miss_0 (by omega) (fun z => absurd (in_2.mpr z) (hq42.resolve_left (fun w => by omega)).2)).symm | exact (miss_0 (by omega) (fun _ j x y => hno j (by omega) (by omega))).symm)
            · have hs9 := hCH.2.2.1 i9 (by omega) (by omega)
              have hCV := hCH.2.2.2.2.2 i9 (by omega) (by omega)
              refine lv_aload_n hx hb dMr_whatIsMissing_63 rfl (lv_at hl 1 rfl) ?_
              refine va_get (D := (dC, dI)) (ci := 6) (v := .ref (b + 5)) (C := "MacroReckoner") (T := TMr) (N := 11) hx hb hts inMr hown hK hP 0 rfl rfl 4 (by decide) (hts _ wt1_177) (fun _ h9 => h9) rfl dMr_whatIsMissing_64 ?_
              refine lv_iload_n hx hb dMr_whatIsMissing_67 rfl (lv_at hl 0 rfl) ?_
              refine iv_aald hx hb hK hP 5 4 rfl rfl (by decide) dMr_whatIsMissing_68 (by omega) (by omega) ?_
              refine W.eq (g2 := F0 m 69 ls [.ref (b + 38 + 4 * si i9)]) rfl ?_
              obtain ⟨a1, e_a1⟩ : ∃ z : Nat, z = b + 38 + 4 * si i9 := ⟨_, rfl⟩
              rw [← e_a1]
              obtain ⟨⟨tv, ngv, scv, lnv, uv, Cv, Fv⟩, e_vv⟩ : ∃ z : VS, z = vs (si i9) := ⟨_, rfl⟩
              have hP := va_P_pm (wMr_p (fV1 (dA := dA) (b := b) (vs := vs) (tp := tp) (k := si i9) (by omega))) hP
              have hD := va_D_pm (wMr_p (fV1 (dA := dA) (b := b) (vs := vs) (tp := tp) (k := si i9) (by omega))) hD
              rw [← e_vv, ← e_a1] at hP hD
              have hP : va_P (dC, dI) vwCl (wMr dA b tr hg wk at_ en cm rg st0 en0 lg tR ngR scR lnR uR lu ru su qu pl rv si D CR FR LF RF SF QF P (wVx dA a1 tv ngv scv lnv uv Cv Fv (tV1 dA b vs tp (si i9)))) H := hP
              have hD : va_D A (wMr dA b tr hg wk at_ en cm rg st0 en0 lg tR ngR scR lnR uR lu ru su qu pl rv si D CR FR LF RF SF QF P (wVx dA a1 tv ngv scv lnv uv Cv Fv (tV1 dA b vs tp (si i9)))) := hD
              rw [← e_vv] at hCV
              obtain ⟨N9, hV9, hW9, ha1, -, -, -, -⟩ := hCV
              have hb1 : (st.stk i9).t = tv := ha1
              have hv1 : tv = 0 ∨ tv = 1 := hV9.1
              refine va_getN (D := (dC, dI)) (ci := 4) (v := .int (iI tv)) (C := "MacroReckoner$Value") (T := TVa) (N := 6) hx hb hts inVa hown hK hP 22 rfl rfl 0 (by decide) (va_Nw.use rfl (hX.1.1 ("MacroReckoner", 107, "MacroReckoner$Value", "text", "Z", "MacroReckoner") (List.mem_of_getElem? (i := 9) rfl))) (fun _ h9 => h9) rfl dMr_whatIsMissing_69 ?_
              refine iv_if_eq (tgt := 78) hx hb dMr_whatIsMissing_72 (by decide) ⟨by omega, by omega⟩ (fun hc72 => ?_) (fun hc72 => ?_)
              · rw [e_a1] at hP hD
                have hP := va_P_pm (wMr_p (uV1 (dA := dA) (b := b) (vs := vs) (tp := tp) (k := si i9) (v := (tv, ngv, scv, lnv, uv, Cv, Fv)) (by omega))) hP
                have hD := va_D_pm (wMr_p (uV1 (dA := dA) (b := b) (vs := vs) (tp := tp) (k := si i9) (v := (tv, ngv, scv, lnv, uv, Cv, Fv)) (by omega))) hD
                rw [upF_id e_vv] at hP hD
                have hP : va_P (dC, dI) vwCl (wMr dA b tr hg wk at_ en cm rg st0 en0 lg tR ngR scR lnR uR lu ru su qu pl rv si D CR FR LF RF SF QF P (tl0 dA b vs tp)) H := hP
                have hD : va_D A (wMr dA b tr hg wk at_ en cm rg st0 en0 lg tR ngR scR lnR uR lu ru su qu pl rv si D CR FR LF RF SF QF P (tl0 dA b vs tp)) := hD
                refine lv_iinc (k := 0) (lv' := [(3, .int (iI (i9 + 1))), (0, .ref b), (1, .int (iI c0)), (2, .int (iI nd))]) (v := iI (i9 + 1)) hx hb dMr_whatIsMissing_78 hl rfl (iI_add _ _).symm (by decide) rfl (fun ls hl => ?_)
                refine lv_goto (tgt := 55) hx hb dMr_whatIsMissing_81 (by decide) ?_
                exact ih55 (i9 + 1) H locs ls (by omega) (by intro j x y; rcases (show j < i9 ∨ j = i9 by omega) with z | z; exact hno j x z; rw [z]; omega) (by omega) hP hD hS (lv_sub hl [0, 1, 2, 3] rfl)
              · rw [e_a1] at hP hD
                have hP := va_P_pm (wMr_p (uV1 (dA := dA) (b := b) (vs := vs) (tp := tp) (k := si i9) (v := (tv, ngv, scv, lnv, uv, Cv, Fv)) (by omega))) hP
                have hD := va_D_pm (wMr_p (uV1 (dA := dA) (b := b) (vs := vs) (tp := tp) (k := si i9) (v := (tv, ngv, scv, lnv, uv, Cv, Fv)) (by omega))) hD
                rw [upF_id e_vv] at hP hD
                have hP : va_P (dC, dI) vwCl (wMr dA b tr hg wk at_ en cm rg st0 en0 lg tR ngR scR lnR uR lu ru su qu pl rv si D CR FR LF RF SF QF P (tl0 dA b vs tp)) H := hP
                have hD : va_D A (wMr dA b tr hg wk at_ en cm rg st0 en0 lg tR ngR scR lnR uR lu ru su qu pl rv si D CR FR LF RF SF QF P (tl0 dA b vs tp)) := hD
                refine lv_bipush (v := iI (-3)) hx hb dMr_whatIsMissing_75 (by decide) ?_
                exact rt_i hx hb hr hlocks hK hS dMr_whatIsMissing_77 () hP hD (show (-3) = missA st c0 from by exact (miss_3 (i := i9) (by omega) hnu (by omega) (by omega) (by omega)).symm)
        exact L55 _ (hg - nd) H locs ls (by omega) (by intro j x y; omega) (Nat.lt_succ_self _) hP hD hS (lv_sub hl [0, 1, 2, 3] rfl)
    · refine lv_bipush (v := iI (-2)) hx hb dMr_whatIsMissing_36 (by decide) ?_
      exact rt_i hx hb hr hlocks hK hS dMr_whatIsMissing_38 () hP hD (show (-2) = missA st c0 from by exact (miss_2 (by omega)).symm)
  refine iv_if_lt (tgt := 13) hx hb dMr_whatIsMissing_6 (by decide) ⟨by omega, by omega⟩ (fun hc6 => ?_) (fun hc6 => ?_)
  · refine va_ldcS hx hb hown hX.2.2.2.2.1 dMr_whatIsMissing_13 ?_
    refine lv_iload_n hx hb dMr_whatIsMissing_15 rfl (lv_at hl 1 rfl) ?_
    refine cvT_i (we := wMr dA b tr hg wk at_ en cm rg st0 en0 lg tR ngR scR lnR uR lu ru su qu pl rv si D CR FR LF RF SF QF P []) (tl := tl0 dA b vs tp) (va_runV (C := "java/lang/String") (As := [.int (iI c0)]) (rest := []) ⟨hx, hb, hml, hown, hts⟩ (cJs_indexOf_0 l dC dI dA ad 1 c0 (by decide) (by exact hc0) H.size) (cwV 1 hts (gdV wt2_149 wt2_150 wt2_151 wt1_14 wt2_152) rfl rfl rfl ⟨rfl, by decide, by decide, by decide +kernel⟩ ⟨by decide, by decide⟩) (preK hK hP hD hS hA (XS_ok ad) hX.2 (vk_recv hX.2.2.1 (i := 1) (by decide) hS)) rfl rfl hl.1 rfl (lv_room (Nat.le_of_ble_eq_true rfl)) dMr_whatIsMissing_16 ⟨Nat.zero_le _, Nat.zero_le _⟩) hP hD hS hA [] [0, 1, 2, 3, 4, 5, 6, 7, 8, 9, 10, 11, 12, 13, 14, 15, 16, 17, 18, 19, 20, 21] rfl (fun v_ => wMr dA b tr hg wk at_ en cm rg st0 en0 lg tR ngR scR lnR uR lu ru su qu pl rv si D CR FR LF RF SF QF P []) (fun _ => rfl) (wMr dA b tr hg wk at_ en cm rg st0 en0 lg tR ngR scR lnR uR lu ru su qu pl rv si D CR FR LF RF SF QF P []) rfl (fun _ => rfl) [b, b + 1, b + 2, b + 3, b + 4, b + 5, b + 6, b + 7, b + 8, b + 9, b + 10, b + 11, b + 12, b + 13, b + 14, b + 15, b + 16, b + 17, b + 18, b + 19, b + 20, b + 21] rfl (fun _ => rfl) (fun _ => rfl) (fun r16 u_ H locs hq16 hP hD hS => ?_)
    have hP : va_P (dC, dI) vwCl (wMr dA b tr hg wk at_ en cm rg st0 en0 lg tR ngR scR lnR uR lu ru su qu pl rv si D CR FR LF RF SF QF P (tl0 dA b vs tp)) H := hP
    have hD : va_D A (wMr dA b tr hg wk at_ en cm rg st0 en0 lg tR ngR scR lnR uR lu ru su qu pl rv si D CR FR LF RF SF QF P (tl0 dA b vs tp)) := hD
    have hq16 : (0 ≤ r16 ∧ r16 ≤ 100 ∧ inS 1 c0) ∨ (r16 = -1 ∧ ¬ inS 1 c0) := hq16
    refine iv_if_lt (tgt := 26) hx hb dMr_whatIsMissing_19 (by decide) ⟨by omega, by omega⟩ (fun hc19 => ?_) (fun hc19 => ?_)
    · refine lv_iconst (v := iI 0) hx hb dMr_whatIsMissing_26 rfl ?_
      refine lv_istore_n (lv' := [(2, .int (iI 0)), (0, .ref b), (1, .int (iI c0))]) hx hb dMr_whatIsMissing_27 rfl hl (by decide) rfl (fun ls hl => ?_)
      exact J28 0 H locs ls (by first | exact (need_2s (hq3.resolve_right (fun z => by omega)).2.2).symm | exact (need_1s (hq3.resolve_left (fun z => by omega)).2 (hq16.resolve_right (fun z => by omega)).2.2).symm | exact (need_0s (hq3.resolve_left (fun z => by omega)).2 (hq16.resolve_left (fun z => by omega)).2).symm) hP hD hS (lv_sub hl [1, 2, 0] rfl)
    · refine lv_iconst (v := iI 1) hx hb dMr_whatIsMissing_22 rfl ?_
      refine lv_goto (tgt := 27) hx hb dMr_whatIsMissing_23 (by decide) ?_
      refine lv_istore_n (lv' := [(2, .int (iI 1)), (0, .ref b), (1, .int (iI c0))]) hx hb dMr_whatIsMissing_27 rfl hl (by decide) rfl (fun ls hl => ?_)
      exact J28 1 H locs ls (by first | exact (need_2s (hq3.resolve_right (fun z => by omega)).2.2).symm | exact (need_1s (hq3.resolve_left (fun z => by omega)).2 (hq16.resolve_right (fun z => by omega)).2.2).symm | exact (need_0s (hq3.resolve_left (fun z => by omega)).2 (hq16.resolve_left (fun z => by omega)).2).symm) hP hD hS (lv_sub hl [1, 2, 0] rfl)
  · refine lv_iconst (v := iI 2) hx hb dMr_whatIsMissing_9 rfl ?_
    refine lv_goto (tgt := 27) hx hb dMr_whatIsMissing_10 (by decide) ?_
    refine lv_istore_n (lv' := [(2, .int (iI 2)), (0, .ref b), (1, .int (iI c0))]) hx hb dMr_whatIsMissing_27 rfl hl (by decide) rfl (fun ls hl => ?_)
    exact J28 2 H locs ls (by first | exact (need_2s (hq3.resolve_right (fun z => by omega)).2.2).symm | exact (need_1s (hq3.resolve_left (fun z => by omega)).2 (hq16.resolve_right (fun z => by omega)).2.2).symm | exact (need_0s (hq3.resolve_left (fun z => by omega)).2 (hq16.resolve_left (fun z => by omega)).2).symm) hP hD hS (lv_sub hl [1, 2, 0] rfl)
