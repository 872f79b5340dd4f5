theorem dTa_left_0 : decode prog_4_method_2_code 0 = .ok (.aload_n 0, 1) := by decide +kernel
theorem dTa_left_1 : decode prog_4_method_2_code 1 = .ok (.getfield 13, 3) := by decide +kernel
theorem dTa_left_4 : decode prog_4_method_2_code 4 = .ok (.aload_n 0, 1) := by decide +kernel
theorem dTa_left_5 : decode prog_4_method_2_code 5 = .ok (.getfield 7, 3) := by decide +kernel
theorem dTa_left_8 : decode prog_4_method_2_code 8 = .ok (.isub, 1) := by decide +kernel
theorem dTa_left_9 : decode prog_4_method_2_code 9 = .ok (.ireturn, 1) := by decide +kernel
abbrev qTa_left (dC : Nat → ClassId) (dI : Nat → Nat → Nat) (dA : Nat → ClassId) (ta : Nat) (tr : Nat) (nn : Nat) (D : Int → Int) (at_ : Int) (en : Int) (A : Nat → Prop) : Array Value → State → Outcome → State → Prop := QI (dC, dI) vwCl (tyA dA) (fun (r : Int) (v_ : Unit) => r = en - at_) (fun (v_ : Unit) => wTa dA ta tr nn D at_ en []) A
abbrev rmTa_left : Room := { frames := 0, cells := 0, slots := 0, locals := 0 }
set_option maxRecDepth 100000 in
set_option maxHeartbeats 1000000 in
theorem cTa_left (l : Launch) (dC : Nat → ClassId) (dI : Nat → Nat → Nat) (dA : Nat → ClassId) (ta : Nat) (tr : Nat) (nn : Nat) (D : Int → Int) (at_ : Int) (en : Int)  (sz : Nat) : Met l yTa_left wsTa_left rmTa_left (PC (dC, dI) vwCl (tyA dA) XN [.ref ta] (wTa dA ta tr nn D at_ en []) sz) (qTa_left dC dI dA ta tr nn D at_ en (va_A (wTa dA ta tr nn D at_ en []) sz)) 0 0 (va_A (wTa dA ta tr nn D at_ en []) sz) := by
  refine met_of (cc := prog_4_method_2_code) (maxL := 1) (ret := (some .int)) (Qc := qTa_left dC dI dA ta tr nn D at_ en) XN_ok (by decide) rfl (Nat.le_of_ble_eq_true rfl) ?_
  intro p e s m below meth c ls A hx hb hr hml hown hts hlocks hnm hK hP hD hA hX hS hl
  have hl : lv_has ls 1 [(0, .ref ta)] := hl
  have hown : s.vm.findClass "MacroReckoner$Tape" = some m.cls := hown
  obtain ⟨H, hH⟩ : ∃ H : Heap, H = s.heap := ⟨_, rfl⟩
  obtain ⟨locs, hlo⟩ : ∃ L : List Loc, L = [] := ⟨_, rfl⟩
  have hP : va_P (dC, dI) vwCl (wTa dA ta tr nn D at_ en []) H := hH ▸ hP
  have hS : va_S A s.heap H locs := by rw [hH, hlo]; exact hS
  suffices hgo : W p l e rmTa_left s m [.ref ta].toArray below meth c H locs 0 0 (MQ below (qTa_left dC dI dA ta tr nn D at_ en A) [.ref ta].toArray s 0 0 A) (F0 m 0 ls []) by rw [hH, hlo] at hgo; exact hgo
  clear hH hlo
  refine lv_aload_n hx hb dTa_left_0 rfl (lv_at hl 0 rfl) ?_
  refine va_get (D := (dC, dI)) (ci := 2) (v := .int (iI en)) (C := "MacroReckoner$Tape") (T := TTa) (N := 3) hx hb hts inTa hown hK hP 0 rfl rfl 2 (by decide) (hts _ wt1_38) (fun _ h9 => h9) rfl dTa_left_1 ?_
  refine lv_aload_n hx hb dTa_left_4 rfl (lv_at hl 0 rfl) ?_
  refine va_get (D := (dC, dI)) (ci := 2) (v := .int (iI at_)) (C := "MacroReckoner$Tape") (T := TTa) (N := 3) hx hb hts inTa hown hK hP 0 rfl rfl 1 (by decide) (hts _ wt1_36) (fun _ h9 => h9) rfl dTa_left_5 ?_
  refine iv_isub hx hb dTa_left_8 ?_
  exact rt_i hx hb hr hlocks hK hS dTa_left_9 () hP hD (show (en - at_) = en - at_ from by rfl)

theorem dTa_append_0 : decode prog_4_method_3_code 0 = .ok (.aload_n 0, 1) := by decide +kernel
theorem dTa_append_1 : decode prog_4_method_3_code 1 = .ok (.getfield 13, 3) := by decide +kernel
theorem dTa_append_4 : decode prog_4_method_3_code 4 = .ok (.aload_n 0, 1) := by decide +kernel
theorem dTa_append_5 : decode prog_4_method_3_code 5 = .ok (.getfield 16, 3) := by decide +kernel
theorem dTa_append_8 : decode prog_4_method_3_code 8 = .ok (.arraylength, 1) := by decide +kernel
theorem dTa_append_9 : decode prog_4_method_3_code 9 = .ok (.if_icmp .ne 46, 3) := by decide +kernel
theorem dTa_append_12 : decode prog_4_method_3_code 12 = .ok (.aload_n 0, 1) := by decide +kernel
theorem dTa_append_13 : decode prog_4_method_3_code 13 = .ok (.getfield 16, 3) := by decide +kernel
theorem dTa_append_16 : decode prog_4_method_3_code 16 = .ok (.aload_n 0, 1) := by decide +kernel
theorem dTa_append_17 : decode prog_4_method_3_code 17 = .ok (.getfield 7, 3) := by decide +kernel
theorem dTa_append_20 : decode prog_4_method_3_code 20 = .ok (.aload_n 0, 1) := by decide +kernel
theorem dTa_append_21 : decode prog_4_method_3_code 21 = .ok (.getfield 16, 3) := by decide +kernel
theorem dTa_append_24 : decode prog_4_method_3_code 24 = .ok (.iconst 0, 1) := by decide +kernel
theorem dTa_append_25 : decode prog_4_method_3_code 25 = .ok (.aload_n 0, 1) := by decide +kernel
theorem dTa_append_26 : decode prog_4_method_3_code 26 = .ok (.getfield 13, 3) := by decide +kernel
theorem dTa_append_29 : decode prog_4_method_3_code 29 = .ok (.aload_n 0, 1) := by decide +kernel
theorem dTa_append_30 : decode prog_4_method_3_code 30 = .ok (.getfield 7, 3) := by decide +kernel
theorem dTa_append_33 : decode prog_4_method_3_code 33 = .ok (.isub, 1) := by decide +kernel
theorem dTa_append_34 : decode prog_4_method_3_code 34 = .ok (.invokestatic 20, 3) := by decide +kernel
theorem dTa_append_37 : decode prog_4_method_3_code 37 = .ok (.aload_n 0, 1) := by decide +kernel
theorem dTa_append_38 : decode prog_4_method_3_code 38 = .ok (.dup, 1) := by decide +kernel
theorem dTa_append_39 : decode prog_4_method_3_code 39 = .ok (.getfield 13, 3) := by decide +kernel
theorem dTa_append_42 : decode prog_4_method_3_code 42 = .ok (.aload_n 0, 1) := by decide +kernel
theorem dTa_append_43 : decode prog_4_method_3_code 43 = .ok (.getfield 7, 3) := by decide +kernel
theorem dTa_append_46 : decode prog_4_method_3_code 46 = .ok (.isub, 1) := by decide +kernel
theorem dTa_append_47 : decode prog_4_method_3_code 47 = .ok (.putfield 13, 3) := by decide +kernel
theorem dTa_append_50 : decode prog_4_method_3_code 50 = .ok (.aload_n 0, 1) := by decide +kernel
theorem dTa_append_51 : decode prog_4_method_3_code 51 = .ok (.iconst 0, 1) := by decide +kernel
theorem dTa_append_52 : decode prog_4_method_3_code 52 = .ok (.putfield 7, 3) := by decide +kernel
theorem dTa_append_55 : decode prog_4_method_3_code 55 = .ok (.aload_n 0, 1) := by decide +kernel
theorem dTa_append_56 : decode prog_4_method_3_code 56 = .ok (.getfield 13, 3) := by decide +kernel
theorem dTa_append_59 : decode prog_4_method_3_code 59 = .ok (.aload_n 0, 1) := by decide +kernel
theorem dTa_append_60 : decode prog_4_method_3_code 60 = .ok (.getfield 16, 3) := by decide +kernel
theorem dTa_append_63 : decode prog_4_method_3_code 63 = .ok (.arraylength, 1) := by decide +kernel
theorem dTa_append_64 : decode prog_4_method_3_code 64 = .ok (.if_icmp .ne 5, 3) := by decide +kernel
theorem dTa_append_67 : decode prog_4_method_3_code 67 = .ok (.iconst 0, 1) := by decide +kernel
theorem dTa_append_68 : decode prog_4_method_3_code 68 = .ok (.ireturn, 1) := by decide +kernel
theorem dTa_append_69 : decode prog_4_method_3_code 69 = .ok (.aload_n 0, 1) := by decide +kernel
theorem dTa_append_70 : decode prog_4_method_3_code 70 = .ok (.getfield 16, 3) := by decide +kernel
theorem dTa_append_73 : decode prog_4_method_3_code 73 = .ok (.aload_n 0, 1) := by decide +kernel
theorem dTa_append_74 : decode prog_4_method_3_code 74 = .ok (.getfield 13, 3) := by decide +kernel
theorem dTa_append_77 : decode prog_4_method_3_code 77 = .ok (.iload_n 1, 1) := by decide +kernel
theorem dTa_append_78 : decode prog_4_method_3_code 78 = .ok (.castore, 1) := by decide +kernel
theorem dTa_append_79 : decode prog_4_method_3_code 79 = .ok (.aload_n 0, 1) := by decide +kernel
theorem dTa_append_80 : decode prog_4_method_3_code 80 = .ok (.dup, 1) := by decide +kernel
theorem dTa_append_81 : decode prog_4_method_3_code 81 = .ok (.getfield 13, 3) := by decide +kernel
theorem dTa_append_84 : decode prog_4_method_3_code 84 = .ok (.iconst 1, 1) := by decide +kernel
theorem dTa_append_85 : decode prog_4_method_3_code 85 = .ok (.iadd, 1) := by decide +kernel
theorem dTa_append_86 : decode prog_4_method_3_code 86 = .ok (.putfield 13, 3) := by decide +kernel
theorem dTa_append_89 : decode prog_4_method_3_code 89 = .ok (.iconst 1, 1) := by decide +kernel
theorem dTa_append_90 : decode prog_4_method_3_code 90 = .ok (.ireturn, 1) := by decide +kernel
abbrev qTa_append (dC : Nat → ClassId) (dI : Nat → Nat → Nat) (dA : Nat → ClassId) (ta : Nat) (tr : Nat) (nn : Nat) (D : Int → Int) (at_ : Int) (en : Int) (ch : Int) (A : Nat → Prop) : Array Value → State → Outcome → State → Prop := QI (dC, dI) vwCl (tyA dA) (fun (r : Int) (v_ : (Int → Int) × Int × Int) => TP nn v_.1 v_.2.1 v_.2.2 ∧ (∀ j, 0 ≤ j → j < en - at_ → v_.1 (v_.2.1 + j) = D (at_ + j)) ∧ ((r = 1 ∧ en - at_ < nn ∧ v_.2.2 - v_.2.1 = en - at_ + 1 ∧ v_.1 (v_.2.1 + (en - at_)) = ch) ∨ (r = 0 ∧ en - at_ = nn ∧ v_.2.2 - v_.2.1 = en - at_))) (fun (v_ : (Int → Int) × Int × Int) => wTa dA ta tr nn v_.1 v_.2.1 v_.2.2 []) A
abbrev rmTa_append : Room := { frames := 1, cells := 0, slots := 0, locals := 60 }
set_option maxRecDepth 100000 in
set_option maxHeartbeats 1000000 in
theorem cTa_append (l : Launch) (dC : Nat → ClassId) (dI : Nat → Nat → Nat) (dA : Nat → ClassId) (ta : Nat) (tr : Nat) (nn : Nat) (D : Int → Int) (at_ : Int) (en : Int) (ch : Int) (hT : TP nn D at_ en) (hch : 32 ≤ ch ∧ ch ≤ 126) (sz : Nat) : Met l yTa_append wsTa_append rmTa_append (PC (dC, dI) vwCl (tyA dA) XN [.ref ta, .int (iI ch)] (wTa dA ta tr nn D at_ en []) sz) (qTa_append dC dI dA ta tr nn D at_ en ch (va_A (wTa dA ta tr nn D at_ en []) sz)) 0 0 (va_A (wTa dA ta tr nn D at_ en []) sz) := by
  refine met_of (cc := prog_4_method_3_code) (maxL := 2) (ret := (some .boolean)) (Qc := qTa_append dC dI dA ta tr nn D at_ en ch) XN_ok (by decide) rfl (Nat.le_of_ble_eq_true rfl) ?_
  intro p e s m below meth c ls A hx hb hr hml hown hts hlocks hnm hK hP hD hA hX hS hl
  have hl : lv_has ls 2 [(0, .ref ta), (1, .int (iI ch))] := hl
  have hown : s.vm.findClass "MacroReckoner$Tape" = some m.cls := hown
  obtain ⟨H, hH⟩ : ∃ H : Heap, H = s.heap := ⟨_, rfl⟩
  obtain ⟨locs, hlo⟩ : ∃ L : List Loc, L = [] := ⟨_, rfl⟩
  have hP : va_P (dC, dI) vwCl (wTa dA ta tr nn D at_ en []) H := hH ▸ hP
  have hS : va_S A s.heap H locs := by rw [hH, hlo]; exact hS
  suffices hgo : W p l e rmTa_append s m [.ref ta, .int (iI ch)].toArray below meth c H locs 0 0 (MQ below (qTa_append dC dI dA ta tr nn D at_ en ch A) [.ref ta, .int (iI ch)].toArray s 0 0 A) (F0 m 0 ls []) by rw [hH, hlo] at hgo; exact hgo
  clear hH hlo
  obtain ⟨ht0, ht1, ht2, ht3, ht4⟩ := hT
  refine lv_aload_n hx hb dTa_append_0 rfl (lv_at hl 0 rfl) ?_
  refine va_get (D := (dC, dI)) (ci := 2) (v := .int (iI en)) (C := "MacroReckoner$Tape") (T := TTa) (N := 3) hx hb hts inTa hown hK hP 0 rfl rfl 2 (by decide) (hts _ wt1_38) (fun _ h9 => h9) rfl dTa_append_1 ?_
  refine lv_aload_n hx hb dTa_append_4 rfl (lv_at hl 0 rfl) ?_
  refine va_get (D := (dC, dI)) (ci := 2) (v := .ref tr) (C := "MacroReckoner$Tape") (T := TTa) (N := 3) hx hb hts inTa hown hK hP 0 rfl rfl 0 (by decide) (hts _ wt1_34) (fun _ h9 => h9) rfl dTa_append_5 ?_
  refine iv_alen hx hb hK hP 1 1 rfl rfl dTa_append_8 ?_
  refine W.eq (g2 := F0 m 9 ls [.int (iI (((nn : Nat) : Int))), .int (iI en)]) rfl ?_
  refine iv_icmp_ne (tgt := 55) hx hb dTa_append_9 (by decide) ⟨by omega, by omega⟩ ⟨by omega, by omega⟩ (fun hc9 => ?_) (fun hc9 => ?_)
  · refine lv_aload_n hx hb dTa_append_55 rfl (lv_at hl 0 rfl) ?_
    refine va_get (D := (dC, dI)) (ci := 2) (v := .int (iI en)) (C := "MacroReckoner$Tape") (T := TTa) (N := 3) hx hb hts inTa hown hK hP 0 rfl rfl 2 (by decide) (hts _ wt1_38) (fun _ h9 => h9) rfl dTa_append_56 ?_
    refine lv_aload_n hx hb dTa_append_59 rfl (lv_at hl 0 rfl) ?_
    refine va_get (D := (dC, dI)) (ci := 2) (v := .ref tr) (C := "MacroReckoner$Tape") (T := TTa) (N := 3) hx hb hts inTa hown hK hP 0 rfl rfl 0 (by decide) (hts _ wt1_34) (fun _ h9 => h9) rfl dTa_append_60 ?_
    refine iv_alen hx hb hK hP 1 1 rfl rfl dTa_append_63 ?_
    refine W.eq (g2 := F0 m 64 ls [.int (iI (((nn : Nat) : Int))), .int (iI en)]) rfl ?_
    refine iv_icmp_ne (tgt := 69) hx hb dTa_append_64 (by decide) ⟨by omega, by omega⟩ ⟨by omega, by omega⟩ (fun hc64 => ?_) (fun hc64 => absurd hc64 (by omega))
    refine lv_aload_n hx hb dTa_append_69 rfl (lv_at hl 0 rfl) ?_
    refine va_get (D := (dC, dI)) (ci := 2) (v := .ref tr) (C := "MacroReckoner$Tape") (T := TTa) (N := 3) hx hb hts inTa hown hK hP 0 rfl rfl 0 (by decide) (hts _ wt1_34) (fun _ h9 => h9) rfl dTa_append_70 ?_
    refine lv_aload_n hx hb dTa_append_73 rfl (lv_at hl 0 rfl) ?_
    refine va_get (D := (dC, dI)) (ci := 2) (v := .int (iI en)) (C := "MacroReckoner$Tape") (T := TTa) (N := 3) hx hb hts inTa hown hK hP 0 rfl rfl 2 (by decide) (hts _ wt1_38) (fun _ h9 => h9) rfl dTa_append_74 ?_
    refine lv_iload_n hx hb dTa_append_77 rfl (lv_at hl 1 rfl) ?_
    refine iv_cast (v := ch) hx hb hK hP hD hS 1 1 rfl rfl (by omega) dTa_append_78 (by omega) (by omega) (by omega) (by omega) (fun H locs hP hD hS => ?_)
    have hP : va_P (dC, dI) vwCl (wTa dA ta tr nn (up D en ch) at_ en []) H := hP
    have hD : va_D A (wTa dA ta tr nn (up D en ch) at_ en []) := hD
    refine lv_aload_n hx hb dTa_append_79 rfl (lv_at hl 0 rfl) ?_
    refine lv_dup hx hb dTa_append_80 rfl ?_
    refine va_get (D := (dC, dI)) (ci := 2) (v := .int (iI en)) (C := "MacroReckoner$Tape") (T := TTa) (N := 3) hx hb hts inTa hown hK hP 0 rfl rfl 2 (by decide) (hts _ wt1_38) (fun _ h9 => h9) rfl dTa_append_81 ?_
    refine lv_iconst (v := iI 1) hx hb dTa_append_84 rfl ?_
    refine iv_iadd hx hb dTa_append_85 ?_
    refine va_put (D := (dC, dI)) (ci := 2) (v := .int (iI (en + 1))) (ty := .int) (C := "MacroReckoner$Tape") (T := TTa) (N := 3) hx hb hts inTa tyTa tyTa_ok nmTa hown hK hP hD hS 0 rfl rfl 2 (by decide) (hts _ wt1_38) (fun _ h9 => h9) rfl (by decide +kernel) rfl rfl (Nat.le_of_ble_eq_true rfl) dTa_append_86 (fun H locs hP hD hS => ?_)
    have hP : va_P (dC, dI) vwCl (wTa dA ta tr nn (up D en ch) at_ (en + 1) []) H := hP
    have hD : va_D A (wTa dA ta tr nn (up D en ch) at_ (en + 1) []) := hD
    refine lv_iconst (v := iI 1) hx hb dTa_append_89 rfl ?_
    exact rt_z hx hb hr hlocks hK hS dTa_append_90 (nrw_bool (by omega)) (up D en ch, at_, en + 1) hP hD (show TP nn (up D en ch) at_ (en + 1) ∧ (∀ j, 0 ≤ j → j < en - at_ → (up D en ch) (at_ + j) = D (at_ + j)) ∧ ((1 = 1 ∧ en - at_ < nn ∧ (en + 1) - at_ = en - at_ + 1 ∧ (up D en ch) (at_ + (en - at_)) = ch) ∨ (1 = 0 ∧ en - at_ = nn ∧ (en + 1) - at_ = en - at_)) from by first | (refine ⟨⟨by omega, by omega, by omega, by omega, fun j x y => ?_⟩, fun j x y => ?_, Or.inl ⟨rfl, by omega, by omega, ?_⟩⟩; by_cases q : j = en - at_; rw [q, up_s]; omega; rw [up_n q, cp_in (by omega) (by omega)]; exact ht4 _ (by omega) (by omega); rw [up_n (by omega), cp_in (by omega) (by omega)]; congr 1; omega; rw [show 0 + (en - at_) = en - at_ by omega, up_s]) | (refine ⟨⟨by omega, by omega, by omega, by omega, fun j x y => ?_⟩, fun j x y => ?_, Or.inl ⟨rfl, by omega, by omega, ?_⟩⟩; by_cases q : j = en; rw [q, up_s]; omega; rw [up_n q]; exact ht4 _ (by omega) (by omega); rw [up_n (by omega)]; rw [show at_ + (en - at_) = en by omega, up_s]))
  · refine lv_aload_n hx hb dTa_append_12 rfl (lv_at hl 0 rfl) ?_
    refine va_get (D := (dC, dI)) (ci := 2) (v := .ref tr) (C := "MacroReckoner$Tape") (T := TTa) (N := 3) hx hb hts inTa hown hK hP 0 rfl rfl 0 (by decide) (hts _ wt1_34) (fun _ h9 => h9) rfl dTa_append_13 ?_
    refine lv_aload_n hx hb dTa_append_16 rfl (lv_at hl 0 rfl) ?_
    refine va_get (D := (dC, dI)) (ci := 2) (v := .int (iI at_)) (C := "MacroReckoner$Tape") (T := TTa) (N := 3) hx hb hts inTa hown hK hP 0 rfl rfl 1 (by decide) (hts _ wt1_36) (fun _ h9 => h9) rfl dTa_append_17 ?_
    refine lv_aload_n hx hb dTa_append_20 rfl (lv_at hl 0 rfl) ?_
    refine va_get (D := (dC, dI)) (ci := 2) (v := .ref tr) (C := "MacroReckoner$Tape") (T := TTa) (N := 3) hx hb hts inTa hown hK hP 0 rfl rfl 0 (by decide) (hts _ wt1_34) (fun _ h9 => h9) rfl dTa_append_21 ?_
    refine lv_iconst (v := iI 0) hx hb dTa_append_24 rfl ?_
    refine lv_aload_n hx hb dTa_append_25 rfl (lv_at hl 0 rfl) ?_
    refine va_get (D := (dC, dI)) (ci := 2) (v := .int (iI en)) (C := "MacroReckoner$Tape") (T := TTa) (N := 3) hx hb hts inTa hown hK hP 0 rfl rfl 2 (by decide) (hts _ wt1_38) (fun _ h9 => h9) rfl dTa_append_26 ?_
    refine lv_aload_n hx hb dTa_append_29 rfl (lv_at hl 0 rfl) ?_
    refine va_get (D := (dC, dI)) (ci := 2) (v := .int (iI at_)) (C := "MacroReckoner$Tape") (T := TTa) (N := 3) hx hb hts inTa hown hK hP 0 rfl rfl 1 (by decide) (hts _ wt1_36) (fun _ h9 => h9) rfl dTa_append_30 ?_
    refine iv_isub hx hb dTa_append_33 ?_
    refine iv_copy hx hb (hml.trans hl.1.symm) hown (hts _ wt1_215) (hts _ wt1_217) (hts _ wt1_216) (hts _ wt1_9) hK hP hD hS 1 1 1 1 rfl rfl rfl rfl rfl (by decide) (Nat.le_of_ble_eq_true rfl) (by omega) (by omega) dTa_append_34 (by omega) (by omega) (by omega) (by omega) (by omega) (by exact fun i h1 h2 => by have := ht4 (at_ + i) (by omega) (by omega); exact fit_char (by omega) (by omega)) (fun H locs hP hD hS => ?_)
    have hP : va_P (dC, dI) vwCl (wTa dA ta tr nn (cpI D D at_ 0 (en - at_)) at_ en []) H := hP
    have hD : va_D A (wTa dA ta tr nn (cpI D D at_ 0 (en - at_)) at_ en []) := hD
    refine lv_aload_n hx hb dTa_append_37 rfl (lv_at hl 0 rfl) ?_
    refine lv_dup hx hb dTa_append_38 rfl ?_
    refine va_get (D := (dC, dI)) (ci := 2) (v := .int (iI en)) (C := "MacroReckoner$Tape") (T := TTa) (N := 3) hx hb hts inTa hown hK hP 0 rfl rfl 2 (by decide) (hts _ wt1_38) (fun _ h9 => h9) rfl dTa_append_39 ?_
    refine lv_aload_n hx hb dTa_append_42 rfl (lv_at hl 0 rfl) ?_
    refine va_get (D := (dC, dI)) (ci := 2) (v := .int (iI at_)) (C := "MacroReckoner$Tape") (T := TTa) (N := 3) hx hb hts inTa hown hK hP 0 rfl rfl 1 (by decide) (hts _ wt1_36) (fun _ h9 => h9) rfl dTa_append_43 ?_
    refine iv_isub hx hb dTa_append_46 ?_
    refine va_put (D := (dC, dI)) (ci := 2) (v := .int (iI (en - at_))) (ty := .int) (C := "MacroReckoner$Tape") (T := TTa) (N := 3) hx hb hts inTa tyTa tyTa_ok nmTa hown hK hP hD hS 0 rfl rfl 2 (by decide) (hts _ wt1_38) (fun _ h9 => h9) rfl (by decide +kernel) rfl rfl (Nat.le_of_ble_eq_true rfl) dTa_append_47 (fun H locs hP hD hS => ?_)
    have hP : va_P (dC, dI) vwCl (wTa dA ta tr nn (cpI D D at_ 0 (en - at_)) at_ (en - at_) []) H := hP
    have hD : va_D A (wTa dA ta tr nn (cpI D D at_ 0 (en - at_)) at_ (en - at_) []) := hD
    refine lv_aload_n hx hb dTa_append_50 rfl (lv_at hl 0 rfl) ?_
    refine lv_iconst (v := iI 0) hx hb dTa_append_51 rfl ?_
    refine va_put (D := (dC, dI)) (ci := 2) (v := .int (iI 0)) (ty := .int) (C := "MacroReckoner$Tape") (T := TTa) (N := 3) hx hb hts inTa tyTa tyTa_ok nmTa hown hK hP hD hS 0 rfl rfl 1 (by decide) (hts _ wt1_36) (fun _ h9 => h9) rfl (by decide +kernel) rfl rfl (Nat.le_of_ble_eq_true rfl) dTa_append_52 (fun H locs hP hD hS => ?_)
    have hP : va_P (dC, dI) vwCl (wTa dA ta tr nn (cpI D D at_ 0 (en - at_)) 0 (en - at_) []) H := hP
    have hD : va_D A (wTa dA ta tr nn (cpI D D at_ 0 (en - at_)) 0 (en - at_) []) := hD
    refine lv_aload_n hx hb dTa_append_55 rfl (lv_at hl 0 rfl) ?_
    refine va_get (D := (dC, dI)) (ci := 2) (v := .int (iI ((en - at_)))) (C := "MacroReckoner$Tape") (T := TTa) (N := 3) hx hb hts inTa hown hK hP 0 rfl rfl 2 (by decide) (hts _ wt1_38) (fun _ h9 => h9) rfl dTa_append_56 ?_
    refine lv_aload_n hx hb dTa_append_59 rfl (lv_at hl 0 rfl) ?_
    refine va_get (D := (dC, dI)) (ci := 2) (v := .ref tr) (C := "MacroReckoner$Tape") (T := TTa) (N := 3) hx hb hts inTa hown hK hP 0 rfl rfl 0 (by decide) (hts _ wt1_34) (fun _ h9 => h9) rfl dTa_append_60 ?_
    refine iv_alen hx hb hK hP 1 1 rfl rfl dTa_append_63 ?_
    refine W.eq (g2 := F0 m 64 ls [.int (iI (((nn : Nat) : Int))), .int (iI ((en - at_)))]) rfl ?_
    refine iv_icmp_ne (tgt := 69) hx hb dTa_append_64 (by decide) ⟨by omega, by omega⟩ ⟨by omega, by omega⟩ (fun hc64 => ?_) (fun hc64 => ?_)
    · refine lv_aload_n hx hb dTa_append_69 rfl (lv_at hl 0 rfl) ?_
      refine va_get (D := (dC, dI)) (ci := 2) (v := .ref tr) (C := "MacroReckoner$Tape") (T := TTa) (N := 3) hx hb hts inTa hown hK hP 0 rfl rfl 0 (by decide) (hts _ wt1_34) (fun _ h9 => h9) rfl dTa_append_70 ?_
      refine lv_aload_n hx hb dTa_append_73 rfl (lv_at hl 0 rfl) ?_
      refine va_get (D := (dC, dI)) (ci := 2) (v := .int (iI ((en - at_)))) (C := "MacroReckoner$Tape") (T := TTa) (N := 3) hx hb hts inTa hown hK hP 0 rfl rfl 2 (by decide) (hts _ wt1_38) (fun _ h9 => h9) rfl dTa_append_74 ?_
      refine lv_iload_n hx hb dTa_append_77 rfl (lv_at hl 1 rfl) ?_
      refine iv_cast (v := ch) hx hb hK hP hD hS 1 1 rfl rfl (by omega) dTa_append_78 (by omega) (by omega) (by omega) (by omega) (fun H locs hP hD hS => ?_)
      have hP : va_P (dC, dI) vwCl (wTa dA ta tr nn (up (cpI D D at_ 0 (en - at_)) ((en - at_)) ch) 0 (en - at_) []) H := hP
      have hD : va_D A (wTa dA ta tr nn (up (cpI D D at_ 0 (en - at_)) ((en - at_)) ch) 0 (en - at_) []) := hD
      refine lv_aload_n hx hb dTa_append_79 rfl (lv_at hl 0 rfl) ?_
      refine lv_dup hx hb dTa_append_80 rfl ?_
      refine va_get (D := (dC, dI)) (ci := 2) (v := .int (iI ((en - at_)))) (C := "MacroReckoner$Tape") (T := TTa) (N := 3) hx hb hts inTa hown hK hP 0 rfl rfl 2 (by decide) (hts _ wt1_38) (fun _ h9 => h9) rfl dTa_append_81 ?_
      refine lv_iconst (v := iI 1) hx hb dTa_append_84 rfl ?_
      refine iv_iadd hx hb dTa_append_85 ?_
      refine va_put (D := (dC, dI)) (ci := 2) (v := .int (iI (((en - at_)) + 1))) (ty := .int) (C := "MacroReckoner$Tape") (T := TTa) (N := 3) hx hb hts inTa tyTa tyTa_ok nmTa hown hK hP hD hS 0 rfl rfl 2 (by decide) (hts _ wt1_38) (fun _ h9 => h9) rfl (by decide +kernel) rfl rfl (Nat.le_of_ble_eq_true rfl) dTa_append_86 (fun H locs hP hD hS => ?_)
      have hP : va_P (dC, dI) vwCl (wTa dA ta tr nn (up (cpI D D at_ 0 (en - at_)) ((en - at_)) ch) 0 (((en - at_)) + 1) []) H := hP
      have hD : va_D A (wTa dA ta tr nn (up (cpI D D at_ 0 (en - at_)) ((en - at_)) ch) 0 (((en - at_)) + 1) []) := hD
      refine lv_iconst (v := iI 1) hx hb dTa_append_89 rfl ?_
      exact rt_z hx hb hr hlocks hK hS dTa_append_90 (nrw_bool (by omega)) (up (cpI D D at_ 0 (en - at_)) ((en - at_)) ch, 0, ((en - at_)) + 1) hP hD (show TP nn (up (cpI D D at_ 0 (en - at_)) ((en - at_)) ch) 0 (((en - at_)) + 1) ∧ (∀ j, 0 ≤ j → j < en - at_ → (up (cpI D D at_ 0 (en - at_)) ((en - at_)) ch) (0 + j) = D (at_ + j)) ∧ ((1 = 1 ∧ en - at_ < nn ∧ (((en - at_)) + 1) - 0 = en - at_ + 1 ∧ (up (cpI D D at_ 0 (en - at_)) ((en - at_)) ch) (0 + (en - at_)) = ch) ∨ (1 = 0 ∧ en - at_ = nn ∧ (((en - at_)) + 1) - 0 = en - at_)) from by first | (refine ⟨⟨by omega, by omega, by omega, by omega, fun j x y => ?_⟩, fun j x y => ?_, Or.inl ⟨rfl, by omega, by omega, ?_⟩⟩; by_cases q : j = en - at_; rw [q, up_s]; omega; rw [up_n q, cp_in (by omega) (by omega)]; exact ht4 _ (by omega) (by omega); rw [up_n (by omega), cp_in (by omega) (by omega)]; congr 1; omega; rw [show 0 + (en - at_) = en - at_ by omega, up_s]) | (refine ⟨⟨by omega, by omega, by omega, by omega, fun j x y => ?_⟩, fun j x y => ?_, Or.inl ⟨rfl, by omega, by omega, ?_⟩⟩; by_cases q : j = en; rw [q, up_s]; omega; rw [up_n q]; exact ht4 _ (by omega) (by omega); rw [up_n (by omega)]; rw [show at_ + (en - at_) = en by omega, up_s]))
    · refine lv_iconst (v := iI 0) hx hb dTa_append_67 rfl ?_
      exact rt_z hx hb hr hlocks hK hS dTa_append_68 (nrw_bool (by omega)) (cpI D D at_ 0 (en - at_), 0, en - at_) hP hD (show TP nn (cpI D D at_ 0 (en - at_)) 0 (en - at_) ∧ (∀ j, 0 ≤ j → j < en - at_ → (cpI D D at_ 0 (en - at_)) (0 + j) = D (at_ + j)) ∧ ((0 = 1 ∧ en - at_ < nn ∧ (en - at_) - 0 = en - at_ + 1 ∧ (cpI D D at_ 0 (en - at_)) (0 + (en - at_)) = ch) ∨ (0 = 0 ∧ en - at_ = nn ∧ (en - at_) - 0 = en - at_)) from by refine ⟨⟨by omega, by omega, by omega, by omega, fun j x y => ?_⟩, fun j x y => ?_, by omega⟩; rw [cp_in (by omega) (by omega)]; exact ht4 _ (by omega) (by omega); rw [cp_in (by omega) (by omega)]; congr 1; omega)

theorem dTa_take_0 : decode prog_4_method_4_code 0 = .ok (.aload_n 0, 1) := by decide +kernel
theorem dTa_take_1 : decode prog_4_method_4_code 1 = .ok (.dup, 1) := by decide +kernel
theorem dTa_take_2 : decode prog_4_method_4_code 2 = .ok (.getfield 7, 3) := by decide +kernel
theorem dTa_take_5 : decode prog_4_method_4_code 5 = .ok (.iload_n 1, 1) := by decide +kernel
theorem dTa_take_6 : decode prog_4_method_4_code 6 = .ok (.iadd, 1) := by decide +kernel
theorem dTa_take_7 : decode prog_4_method_4_code 7 = .ok (.putfield 7, 3) := by decide +kernel
theorem dTa_take_10 : decode prog_4_method_4_code 10 = .ok (.return_, 1) := by decide +kernel
abbrev qTa_take (dC : Nat → ClassId) (dI : Nat → Nat → Nat) (dA : Nat → ClassId) (ta : Nat) (tr : Nat) (nn : Nat) (D : Int → Int) (at_ : Int) (en : Int) (k : Int) (A : Nat → Prop) : Array Value → State → Outcome → State → Prop := QV (dC, dI) vwCl (tyA dA) (fun (v_ : Unit) => True) (fun (v_ : Unit) => wTa dA ta tr nn D (at_ + k) en []) A
abbrev rmTa_take : Room := { frames := 0, cells := 0, slots := 0, locals := 0 }
set_option maxRecDepth 100000 in
set_option maxHeartbeats 1000000 in
theorem cTa_take (l : Launch) (dC : Nat → ClassId) (dI : Nat → Nat → Nat) (dA : Nat → ClassId) (ta : Nat) (tr : Nat) (nn : Nat) (D : Int → Int) (at_ : Int) (en : Int) (k : Int)  (sz : Nat) : Met l yTa_take wsTa_take rmTa_take (PC (dC, dI) vwCl (tyA dA) XN [.ref ta, .int (iI k)] (wTa dA ta tr nn D at_ en []) sz) (qTa_take dC dI dA ta tr nn D at_ en k (va_A (wTa dA ta tr nn D at_ en []) sz)) 0 0 (va_A (wTa dA ta tr nn D at_ en []) sz) := by
  refine met_of (cc := prog_4_method_4_code) (maxL := 2) (ret := none) (Qc := qTa_take dC dI dA ta tr nn D at_ en k) XN_ok (by decide) rfl (Nat.le_of_ble_eq_true rfl) ?_
  intro p e s m below meth c ls A hx hb hr hml hown hts hlocks hnm hK hP hD hA hX hS hl
  have hl : lv_has ls 2 [(0, .ref ta), (1, .int (iI k))] := hl
  have hown : s.vm.findClass "MacroReckoner$Tape" = some m.cls := hown
  obtain ⟨H, hH⟩ : ∃ H : Heap, H = s.heap := ⟨_, rfl⟩
  obtain ⟨locs, hlo⟩ : ∃ L : List Loc, L = [] := ⟨_, rfl⟩
  have hP : va_P (dC, dI) vwCl (wTa dA ta tr nn D at_ en []) H := hH ▸ hP
  have hS : va_S A s.heap H locs := by rw [hH, hlo]; exact hS
  suffices hgo : W p l e rmTa_take s m [.ref ta, .int (iI k)].toArray below meth c H locs 0 0 (MQ below (qTa_take dC dI dA ta tr nn D at_ en k A) [.ref ta, .int (iI k)].toArray s 0 0 A) (F0 m 0 ls []) by rw [hH, hlo] at hgo; exact hgo
  clear hH hlo
  refine lv_aload_n hx hb dTa_take_0 rfl (lv_at hl 0 rfl) ?_
  refine lv_dup hx hb dTa_take_1 rfl ?_
  refine va_get (D := (dC, dI)) (ci := 2) (v := .int (iI at_)) (C := "MacroReckoner$Tape") (T := TTa) (N := 3) hx hb hts inTa hown hK hP 0 rfl rfl 1 (by decide) (hts _ wt1_36) (fun _ h9 => h9) rfl dTa_take_2 ?_
  refine lv_iload_n hx hb dTa_take_5 rfl (lv_at hl 1 rfl) ?_
  refine iv_iadd hx hb dTa_take_6 ?_
  refine va_put (D := (dC, dI)) (ci := 2) (v := .int (iI (at_ + k))) (ty := .int) (C := "MacroReckoner$Tape") (T := TTa) (N := 3) hx hb hts inTa tyTa tyTa_ok nmTa hown hK hP hD hS 0 rfl rfl 1 (by decide) (hts _ wt1_36) (fun _ h9 => h9) rfl (by decide +kernel) rfl rfl (Nat.le_of_ble_eq_true rfl) dTa_take_7 (fun H locs hP hD hS => ?_)
  have hP : va_P (dC, dI) vwCl (wTa dA ta tr nn D (at_ + k) en []) H := hP
  have hD : va_D A (wTa dA ta tr nn D (at_ + k) en []) := hD
  exact rt_v hx hb hr hlocks hK hS dTa_take_10 () hP hD (show True from by trivial)

theorem dTa_clear_0 : decode prog_4_method_6_code 0 = .ok (.aload_n 0, 1) := by decide +kernel
theorem dTa_clear_1 : decode prog_4_method_6_code 1 = .ok (.iconst 0, 1) := by decide +kernel
theorem dTa_clear_2 : decode prog_4_method_6_code 2 = .ok (.putfield 7, 3) := by decide +kernel
theorem dTa_clear_5 : decode prog_4_method_6_code 5 = .ok (.aload_n 0, 1) := by decide +kernel
theorem dTa_clear_6 : decode prog_4_method_6_code 6 = .ok (.iconst 0, 1) := by decide +kernel
theorem dTa_clear_7 : decode prog_4_method_6_code 7 = .ok (.putfield 13, 3) := by decide +kernel
theorem dTa_clear_10 : decode prog_4_method_6_code 10 = .ok (.return_, 1) := by decide +kernel
abbrev qTa_clear (dC : Nat → ClassId) (dI : Nat → Nat → Nat) (dA : Nat → ClassId) (ta : Nat) (tr : Nat) (nn : Nat) (D : Int → Int) (at_ : Int) (en : Int) (A : Nat → Prop) : Array Value → State → Outcome → State → Prop := QV (dC, dI) vwCl (tyA dA) (fun (v_ : Unit) => True) (fun (v_ : Unit) => wTa dA ta tr nn D 0 0 []) A
abbrev rmTa_clear : Room := { frames := 0, cells := 0, slots := 0, locals := 0 }
set_option maxRecDepth 100000 in
set_option maxHeartbeats 1000000 in
theorem cTa_clear (l : Launch) (dC : Nat → ClassId) (dI : Nat → Nat → Nat) (dA : Nat → ClassId) (ta : Nat) (tr : Nat) (nn : Nat) (D : Int → Int) (at_ : Int) (en : Int)  (sz : Nat) : Met l yTa_clear wsTa_clear rmTa_clear (PC (dC, dI) vwCl (tyA dA) XN [.ref ta] (wTa dA ta tr nn D at_ en []) sz) (qTa_clear dC dI dA ta tr nn D at_ en (va_A (wTa dA ta tr nn D at_ en []) sz)) 0 0 (va_A (wTa dA ta tr nn D at_ en []) sz) := by
  refine met_of (cc := prog_4_method_6_code) (maxL := 1) (ret := none) (Qc := qTa_clear dC dI dA ta tr nn D at_ en) XN_ok (by decide) rfl (Nat.le_of_ble_eq_true rfl) ?_
  intro p e s m below meth c ls A hx hb hr hml hown hts hlocks hnm hK hP hD hA hX hS hl
  have hl : lv_has ls 1 [(0, .ref ta)] := hl
  have hown : s.vm.findClass "MacroReckoner$Tape" = some m.cls := hown
  obtain ⟨H, hH⟩ : ∃ H : Heap, H = s.heap := ⟨_, rfl⟩
  obtain ⟨locs, hlo⟩ : ∃ L : List Loc, L = [] := ⟨_, rfl⟩
  have hP : va_P (dC, dI) vwCl (wTa dA ta tr nn D at_ en []) H := hH ▸ hP
  have hS : va_S A s.heap H locs := by rw [hH, hlo]; exact hS
  suffices hgo : W p l e rmTa_clear s m [.ref ta].toArray below meth c H locs 0 0 (MQ below (qTa_clear dC dI dA ta tr nn D at_ en A) [.ref ta].toArray s 0 0 A) (F0 m 0 ls []) by rw [hH, hlo] at hgo; exact hgo
  clear hH hlo
  refine lv_aload_n hx hb dTa_clear_0 rfl (lv_at hl 0 rfl) ?_
  refine lv_iconst (v := iI 0) hx hb dTa_clear_1 rfl ?_
  refine va_put (D := (dC, dI)) (ci := 2) (v := .int (iI 0)) (ty := .int) (C := "MacroReckoner$Tape") (T := TTa) (N := 3) hx hb hts inTa tyTa tyTa_ok nmTa hown hK hP hD hS 0 rfl rfl 1 (by decide) (hts _ wt1_36) (fun _ h9 => h9) rfl (by decide +kernel) rfl rfl (Nat.le_of_ble_eq_true rfl) dTa_clear_2 (fun H locs hP hD hS => ?_)
  have hP : va_P (dC, dI) vwCl (wTa dA ta tr nn D 0 en []) H := hP
  have hD : va_D A (wTa dA ta tr nn D 0 en []) := hD
  refine lv_aload_n hx hb dTa_clear_5 rfl (lv_at hl 0 rfl) ?_
  refine lv_iconst (v := iI 0) hx hb dTa_clear_6 rfl ?_
  refine va_put (D := (dC, dI)) (ci := 2) (v := .int (iI 0)) (ty := .int) (C := "MacroReckoner$Tape") (T := TTa) (N := 3) hx hb hts inTa tyTa tyTa_ok nmTa hown hK hP hD hS 0 rfl rfl 2 (by decide) (hts _ wt1_38) (fun _ h9 => h9) rfl (by decide +kernel) rfl rfl (Nat.le_of_ble_eq_true rfl) dTa_clear_7 (fun H locs hP hD hS => ?_)
  have hP : va_P (dC, dI) vwCl (wTa dA ta tr nn D 0 0 []) H := hP
  have hD : va_D A (wTa dA ta tr nn D 0 0 []) := hD
  exact rt_v hx hb hr hlocks hK hS dTa_clear_10 () hP hD (show True from by trivial)

theorem dTa_fill_0 : decode prog_4_method_5_code 0 = .ok (.aload_n 1, 1) := by decide +kernel
theorem dTa_fill_1 : decode prog_4_method_5_code 1 = .ok (.iconst 0, 1) := by decide +kernel
theorem dTa_fill_2 : decode prog_4_method_5_code 2 = .ok (.aload_n 0, 1) := by decide +kernel
theorem dTa_fill_3 : decode prog_4_method_5_code 3 = .ok (.getfield 16, 3) := by decide +kernel
theorem dTa_fill_6 : decode prog_4_method_5_code 6 = .ok (.iconst 0, 1) := by decide +kernel
theorem dTa_fill_7 : decode prog_4_method_5_code 7 = .ok (.iload_n 2, 1) := by decide +kernel
theorem dTa_fill_8 : decode prog_4_method_5_code 8 = .ok (.invokestatic 20, 3) := by decide +kernel
theorem dTa_fill_11 : decode prog_4_method_5_code 11 = .ok (.aload_n 0, 1) := by decide +kernel
theorem dTa_fill_12 : decode prog_4_method_5_code 12 = .ok (.iconst 0, 1) := by decide +kernel
theorem dTa_fill_13 : decode prog_4_method_5_code 13 = .ok (.putfield 7, 3) := by decide +kernel
theorem dTa_fill_16 : decode prog_4_method_5_code 16 = .ok (.aload_n 0, 1) := by decide +kernel
theorem dTa_fill_17 : decode prog_4_method_5_code 17 = .ok (.iload_n 2, 1) := by decide +kernel
theorem dTa_fill_18 : decode prog_4_method_5_code 18 = .ok (.putfield 13, 3) := by decide +kernel
theorem dTa_fill_21 : decode prog_4_method_5_code 21 = .ok (.return_, 1) := by decide +kernel
abbrev qTa_fill (dC : Nat → ClassId) (dI : Nat → Nat → Nat) (dA : Nat → ClassId) (ta : Nat) (tr : Nat) (nn : Nat) (D : Int → Int) (at_ : Int) (en : Int) (fr : Nat) (mm : Nat) (E : Int → Int) (k : Int) (A : Nat → Prop) : Array Value → State → Outcome → State → Prop := QV (dC, dI) vwCl (tyA dA) (fun (v_ : (Int → Int)) => TP nn v_ 0 k ∧ ∀ j, 0 ≤ j → j < k → v_ j = E j) (fun (v_ : (Int → Int)) => wTa dA ta tr nn v_ 0 k (wCh dA fr mm E [])) A
abbrev rmTa_fill : Room := { frames := 1, cells := 0, slots := 0, locals := 60 }
set_option maxRecDepth 100000 in
set_option maxHeartbeats 1000000 in
theorem cTa_fill (l : Launch) (dC : Nat → ClassId) (dI : Nat → Nat → Nat) (dA : Nat → ClassId) (ta : Nat) (tr : Nat) (nn : Nat) (D : Int → Int) (at_ : Int) (en : Int) (fr : Nat) (mm : Nat) (E : Int → Int) (k : Int) (hk : 0 ≤ k ∧ k ≤ nn ∧ k ≤ mm ∧ nn ≤ 100 ∧ mm ≤ 100) (hch : ∀ j, 0 ≤ j → j < k → 32 ≤ E j ∧ E j ≤ 126) (sz : Nat) : Met l yTa_fill wsTa_fill rmTa_fill (PC (dC, dI) vwCl (tyA dA) XN [.ref ta, .ref fr, .int (iI k)] (wTa dA ta tr nn D at_ en (wCh dA fr mm E [])) sz) (qTa_fill dC dI dA ta tr nn D at_ en fr mm E k (va_A (wTa dA ta tr nn D at_ en (wCh dA fr mm E [])) sz)) 0 0 (va_A (wTa dA ta tr nn D at_ en (wCh dA fr mm E [])) sz) := by
  refine met_of (cc := prog_4_method_5_code) (maxL := 3) (ret := none) (Qc := qTa_fill dC dI dA ta tr nn D at_ en fr mm E k) XN_ok (by decide) rfl (Nat.le_of_ble_eq_true rfl) ?_
  intro p e s m below meth c ls A hx hb hr hml hown hts hlocks hnm hK hP hD hA hX hS hl
  have hl : lv_has ls 3 [(0, .ref ta), (1, .ref fr), (2, .int (iI k))] := hl
  have hown : s.vm.findClass "MacroReckoner$Tape" = some m.cls := hown
  obtain ⟨H, hH⟩ : ∃ H : Heap, H = s.heap := ⟨_, rfl⟩
  obtain ⟨locs, hlo⟩ : ∃ L : List Loc, L = [] := ⟨_, rfl⟩
  have hP : va_P (dC, dI) vwCl (wTa dA ta tr nn D at_ en (wCh dA fr mm E [])) H := hH ▸ hP
  have hS : va_S A s.heap H locs := by rw [hH, hlo]; exact hS
  suffices hgo : W p l e rmTa_fill s m [.ref ta, .ref fr, .int (iI k)].toArray below meth c H locs 0 0 (MQ below (qTa_fill dC dI dA ta tr nn D at_ en fr mm E k A) [.ref ta, .ref fr, .int (iI k)].toArray s 0 0 A) (F0 m 0 ls []) by rw [hH, hlo] at hgo; exact hgo
  clear hH hlo
  refine lv_aload_n hx hb dTa_fill_0 rfl (lv_at hl 1 rfl) ?_
  refine lv_iconst (v := iI 0) hx hb dTa_fill_1 rfl ?_
  refine lv_aload_n hx hb dTa_fill_2 rfl (lv_at hl 0 rfl) ?_
  refine va_get (D := (dC, dI)) (ci := 2) (v := .ref tr) (C := "MacroReckoner$Tape") (T := TTa) (N := 3) hx hb hts inTa hown hK hP 0 rfl rfl 0 (by decide) (hts _ wt1_34) (fun _ h9 => h9) rfl dTa_fill_3 ?_
  refine lv_iconst (v := iI 0) hx hb dTa_fill_6 rfl ?_
  refine lv_iload_n hx hb dTa_fill_7 rfl (lv_at hl 2 rfl) ?_
  refine iv_copy hx hb (hml.trans hl.1.symm) hown (hts _ wt1_215) (hts _ wt1_217) (hts _ wt1_216) (hts _ wt1_9) hK hP hD hS 2 1 1 1 rfl rfl rfl rfl rfl (by decide) (Nat.le_of_ble_eq_true rfl) (by omega) (by omega) dTa_fill_8 (by omega) (by omega) (by omega) (by omega) (by omega) (by exact fun i h1 h2 => by have := hch (0 + i) (by omega) (by omega); exact fit_char (by omega) (by omega)) (fun H locs hP hD hS => ?_)
  have hP : va_P (dC, dI) vwCl (wTa dA ta tr nn (cpI E D 0 0 k) at_ en (wCh dA fr mm E [])) H := hP
  have hD : va_D A (wTa dA ta tr nn (cpI E D 0 0 k) at_ en (wCh dA fr mm E [])) := hD
  refine lv_aload_n hx hb dTa_fill_11 rfl (lv_at hl 0 rfl) ?_
  refine lv_iconst (v := iI 0) hx hb dTa_fill_12 rfl ?_
  refine va_put (D := (dC, dI)) (ci := 2) (v := .int (iI 0)) (ty := .int) (C := "MacroReckoner$Tape") (T := TTa) (N := 3) hx hb hts inTa tyTa tyTa_ok nmTa hown hK hP hD hS 0 rfl rfl 1 (by decide) (hts _ wt1_36) (fun _ h9 => h9) rfl (by decide +kernel) rfl rfl (Nat.le_of_ble_eq_true rfl) dTa_fill_13 (fun H locs hP hD hS => ?_)
  have hP : va_P (dC, dI) vwCl (wTa dA ta tr nn (cpI E D 0 0 k) 0 en (wCh dA fr mm E [])) H := hP
  have hD : va_D A (wTa dA ta tr nn (cpI E D 0 0 k) 0 en (wCh dA fr mm E [])) := hD
  refine lv_aload_n hx hb dTa_fill_16 rfl (lv_at hl 0 rfl) ?_
  refine lv_iload_n hx hb dTa_fill_17 rfl (lv_at hl 2 rfl) ?_
  refine va_put (D := (dC, dI)) (ci := 2) (v := .int (iI k)) (ty := .int) (C := "MacroReckoner$Tape") (T := TTa) (N := 3) hx hb hts inTa tyTa tyTa_ok nmTa hown hK hP hD hS 0 rfl rfl 2 (by decide) (hts _ wt1_38) (fun _ h9 => h9) rfl (by decide +kernel) rfl rfl (Nat.le_of_ble_eq_true rfl) dTa_fill_18 (fun H locs hP hD hS => ?_)
  have hP : va_P (dC, dI) vwCl (wTa dA ta tr nn (cpI E D 0 0 k) 0 k (wCh dA fr mm E [])) H := hP
  have hD : va_D A (wTa dA ta tr nn (cpI E D 0 0 k) 0 k (wCh dA fr mm E [])) := hD
  exact rt_v hx hb hr hlocks hK hS dTa_fill_21 (cpI E D 0 0 k) hP hD (show TP nn (cpI E D 0 0 k) 0 k ∧ ∀ j, 0 ≤ j → j < k → (cpI E D 0 0 k) j = E j from by have hcp : ∀ j, 0 ≤ j → j < k → cpI E D 0 0 k j = E j := fun j x y => (by rw [cp_in (by omega) (by omega)]; congr 1; omega); exact ⟨⟨by omega, by omega, by omega, by omega, fun j x y => by rw [hcp j x y]; exact hch j x y⟩, hcp⟩)

theorem dTa_skipSpaces_0 : decode prog_4_method_7_code 0 = .ok (.aload_n 0, 1) := by decide +kernel
theorem dTa_skipSpaces_1 : decode prog_4_method_7_code 1 = .ok (.getfield 7, 3) := by decide +kernel
theorem dTa_skipSpaces_4 : decode prog_4_method_7_code 4 = .ok (.aload_n 0, 1) := by decide +kernel
theorem dTa_skipSpaces_5 : decode prog_4_method_7_code 5 = .ok (.getfield 13, 3) := by decide +kernel
theorem dTa_skipSpaces_8 : decode prog_4_method_7_code 8 = .ok (.if_icmp .ge 30, 3) := by decide +kernel
theorem dTa_skipSpaces_11 : decode prog_4_method_7_code 11 = .ok (.aload_n 0, 1) := by decide +kernel
theorem dTa_skipSpaces_12 : decode prog_4_method_7_code 12 = .ok (.getfield 16, 3) := by decide +kernel
theorem dTa_skipSpaces_15 : decode prog_4_method_7_code 15 = .ok (.aload_n 0, 1) := by decide +kernel
theorem dTa_skipSpaces_16 : decode prog_4_method_7_code 16 = .ok (.getfield 7, 3) := by decide +kernel
theorem dTa_skipSpaces_19 : decode prog_4_method_7_code 19 = .ok (.caload, 1) := by decide +kernel
theorem dTa_skipSpaces_20 : decode prog_4_method_7_code 20 = .ok (.bipush 32, 2) := by decide +kernel
theorem dTa_skipSpaces_22 : decode prog_4_method_7_code 22 = .ok (.if_icmp .ne 16, 3) := by decide +kernel
theorem dTa_skipSpaces_25 : decode prog_4_method_7_code 25 = .ok (.aload_n 0, 1) := by decide +kernel
theorem dTa_skipSpaces_26 : decode prog_4_method_7_code 26 = .ok (.dup, 1) := by decide +kernel
theorem dTa_skipSpaces_27 : decode prog_4_method_7_code 27 = .ok (.getfield 7, 3) := by decide +kernel
theorem dTa_skipSpaces_30 : decode prog_4_method_7_code 30 = .ok (.iconst 1, 1) := by decide +kernel
theorem dTa_skipSpaces_31 : decode prog_4_method_7_code 31 = .ok (.iadd, 1) := by decide +kernel
theorem dTa_skipSpaces_32 : decode prog_4_method_7_code 32 = .ok (.putfield 7, 3) := by decide +kernel
theorem dTa_skipSpaces_35 : decode prog_4_method_7_code 35 = .ok (.goto (-35), 3) := by decide +kernel
theorem dTa_skipSpaces_38 : decode prog_4_method_7_code 38 = .ok (.return_, 1) := by decide +kernel
abbrev qTa_skipSpaces (dC : Nat → ClassId) (dI : Nat → Nat → Nat) (dA : Nat → ClassId) (ta : Nat) (tr : Nat) (nn : Nat) (D : Int → Int) (at_ : Int) (en : Int) (A : Nat → Prop) : Array Value → State → Outcome → State → Prop := QV (dC, dI) vwCl (tyA dA) (fun (v_ : Int) => skR D at_ en v_) (fun (v_ : Int) => wTa dA ta tr nn D v_ en []) A
abbrev rmTa_skipSpaces : Room := { frames := 0, cells := 0, slots := 0, locals := 0 }
set_option maxRecDepth 100000 in
set_option maxHeartbeats 1000000 in
theorem cTa_skipSpaces (l : Launch) (dC : Nat → ClassId) (dI : Nat → Nat → Nat) (dA : Nat → ClassId) (ta : Nat) (tr : Nat) (nn : Nat) (D : Int → Int) (at_ : Int) (en : Int) (hT : TP nn D at_ en) (sz : Nat) : Met l yTa_skipSpaces wsTa_skipSpaces rmTa_skipSpaces (PC (dC, dI) vwCl (tyA dA) XN [.ref ta] (wTa dA ta tr nn D at_ en []) sz) (qTa_skipSpaces dC dI dA ta tr nn D at_ en (va_A (wTa dA ta tr nn D at_ en []) sz)) 0 0 (va_A (wTa dA ta tr nn D at_ en []) sz) := by
  refine met_of (cc := prog_4_method_7_code) (maxL := 1) (ret := none) (Qc := qTa_skipSpaces dC dI dA ta tr nn D at_ en) XN_ok (by decide) rfl (Nat.le_of_ble_eq_true rfl) ?_
  intro p e s m below meth c ls A hx hb hr hml hown hts hlocks hnm hK hP hD hA hX hS hl
  have hl : lv_has ls 1 [(0, .ref ta)] := hl
  have hown : s.vm.findClass "MacroReckoner$Tape" = some m.cls := hown
  obtain ⟨H, hH⟩ : ∃ H : Heap, H = s.heap := ⟨_, rfl⟩
  obtain ⟨locs, hlo⟩ : ∃ L : List Loc, L = [] := ⟨_, rfl⟩
  have hP : va_P (dC, dI) vwCl (wTa dA ta tr nn D at_ en []) H := hH ▸ hP
  have hS : va_S A s.heap H locs := by rw [hH, hlo]; exact hS
  suffices hgo : W p l e rmTa_skipSpaces s m [.ref ta].toArray below meth c H locs 0 0 (MQ below (qTa_skipSpaces dC dI dA ta tr nn D at_ en A) [.ref ta].toArray s 0 0 A) (F0 m 0 ls []) by rw [hH, hlo] at hgo; exact hgo
  clear hH hlo
  have L0 : ∀ (n : Nat) (q9 : Int) (H : Heap) (locs : List Loc) (ls : Array Slot), (at_ ≤ q9 ∧ q9 ≤ en) → (∀ j, at_ ≤ j → j < q9 → D j = 32) → (en - q9).toNat < n → va_P (dC, dI) vwCl (wTa dA ta tr nn D q9 en []) H → va_D A (wTa dA ta tr nn D q9 en []) → va_S A s.heap H locs → lv_has ls 1 [(0, .ref ta)] → W p l e rmTa_skipSpaces s m [.ref ta].toArray below meth c H locs 0 0 (MQ below (qTa_skipSpaces dC dI dA ta tr nn D at_ en A) [.ref ta].toArray s 0 0 A) (F0 m 0 ls []) := by
    intro n
    induction n with
    | zero => intro q9 H locs ls hJ hJs hn; omega
    | succ n ih =>
      intro q9 H locs ls hJ hJs hn hP hD hS hl
      obtain ⟨ht0, ht1, ht2, ht3, ht4⟩ := hT
      have ih0 := ih
      refine lv_aload_n hx hb dTa_skipSpaces_0 rfl (lv_at hl 0 rfl) ?_
      refine va_get (D := (dC, dI)) (ci := 2) (v := .int (iI q9)) (C := "MacroReckoner$Tape") (T := TTa) (N := 3) hx hb hts inTa hown hK hP 0 rfl rfl 1 (by decide) (hts _ wt1_36) (fun _ h9 => h9) rfl dTa_skipSpaces_1 ?_
      refine lv_aload_n hx hb dTa_skipSpaces_4 rfl (lv_at hl 0 rfl) ?_
      refine va_get (D := (dC, dI)) (ci := 2) (v := .int (iI en)) (C := "MacroReckoner$Tape") (T := TTa) (N := 3) hx hb hts inTa hown hK hP 0 rfl rfl 2 (by decide) (hts _ wt1_38) (fun _ h9 => h9) rfl dTa_skipSpaces_5 ?_
      refine iv_icmp_ge (tgt := 38) hx hb dTa_skipSpaces_8 (by decide) ⟨by omega, by omega⟩ ⟨by omega, by omega⟩ (fun hc8 => ?_) (fun hc8 => ?_)
      · exact rt_v hx hb hr hlocks hK hS dTa_skipSpaces_38 (q9) hP hD (show skR D at_ en q9 from by exact ⟨hJ.1, hJ.2, hJs, fun z => by omega⟩)
      · refine lv_aload_n hx hb dTa_skipSpaces_11 rfl (lv_at hl 0 rfl) ?_
        refine va_get (D := (dC, dI)) (ci := 2) (v := .ref tr) (C := "MacroReckoner$Tape") (T := TTa) (N := 3) hx hb hts inTa hown hK hP 0 rfl rfl 0 (by decide) (hts _ wt1_34) (fun _ h9 => h9) rfl dTa_skipSpaces_12 ?_
        refine lv_aload_n hx hb dTa_skipSpaces_15 rfl (lv_at hl 0 rfl) ?_
        refine va_get (D := (dC, dI)) (ci := 2) (v := .int (iI q9)) (C := "MacroReckoner$Tape") (T := TTa) (N := 3) hx hb hts inTa hown hK hP 0 rfl rfl 1 (by decide) (hts _ wt1_36) (fun _ h9 => h9) rfl dTa_skipSpaces_16 ?_
        have hdq := ht4 q9 hJ.1 hc8
        refine iv_cald hx hb hK hP 1 1 rfl rfl (by omega) dTa_skipSpaces_19 (by omega) (by omega) ?_
        refine lv_bipush (v := iI 32) hx hb dTa_skipSpaces_20 (by decide) ?_
        refine iv_icmp_ne (tgt := 38) hx hb dTa_skipSpaces_22 (by decide) ⟨by omega, by omega⟩ ⟨by decide, by decide⟩ (fun hc22 => ?_) (fun hc22 => ?_)
        · exact rt_v hx hb hr hlocks hK hS dTa_skipSpaces_38 (q9) hP hD (show skR D at_ en q9 from by exact ⟨hJ.1, hJ.2, hJs, fun z => by omega⟩)
        · refine lv_aload_n hx hb dTa_skipSpaces_25 rfl (lv_at hl 0 rfl) ?_
          refine lv_dup hx hb dTa_skipSpaces_26 rfl ?_
          refine va_get (D := (dC, dI)) (ci := 2) (v := .int (iI q9)) (C := "MacroReckoner$Tape") (T := TTa) (N := 3) hx hb hts inTa hown hK hP 0 rfl rfl 1 (by decide) (hts _ wt1_36) (fun _ h9 => h9) rfl dTa_skipSpaces_27 ?_
          refine lv_iconst (v := iI 1) hx hb dTa_skipSpaces_30 rfl ?_
          refine iv_iadd hx hb dTa_skipSpaces_31 ?_
          refine va_put (D := (dC, dI)) (ci := 2) (v := .int (iI (q9 + 1))) (ty := .int) (C := "MacroReckoner$Tape") (T := TTa) (N := 3) hx hb hts inTa tyTa tyTa_ok nmTa hown hK hP hD hS 0 rfl rfl 1 (by decide) (hts _ wt1_36) (fun _ h9 => h9) rfl (by decide +kernel) rfl rfl (Nat.le_of_ble_eq_true rfl) dTa_skipSpaces_32 (fun H locs hP hD hS => ?_)
          have hP : va_P (dC, dI) vwCl (wTa dA ta tr nn D (q9 + 1) en []) H := hP
          have hD : va_D A (wTa dA ta tr nn D (q9 + 1) en []) := hD
          refine lv_goto (tgt := 0) hx hb dTa_skipSpaces_35 (by decide) ?_
          exact ih0 (q9 + 1) H locs ls (by omega) (by intro j x y; rcases (show j < q9 ∨ j = q9 by omega) with z | z; exact hJs j x z; rw [z]; exact hc22) (by omega) hP hD hS (lv_sub hl [0] rfl)
  exact L0 _ at_ H locs ls (by have := hT.2.1; omega) (by intro j x y; omega) (Nat.lt_succ_self _) hP hD hS (lv_sub hl [0] rfl)

theorem dTa_onlySpaces_0 : decode prog_4_method_9_code 0 = .ok (.iload_n 1, 1) := by decide +kernel
theorem dTa_onlySpaces_1 : decode prog_4_method_9_code 1 = .ok (.istore_n 3, 1) := by decide +kernel
theorem dTa_onlySpaces_2 : decode prog_4_method_9_code 2 = .ok (.iload_n 3, 1) := by decide +kernel
theorem dTa_onlySpaces_3 : decode prog_4_method_9_code 3 = .ok (.iload_n 2, 1) := by decide +kernel
theorem dTa_onlySpaces_4 : decode prog_4_method_9_code 4 = .ok (.if_icmp .ge 19, 3) := by decide +kernel
theorem dTa_onlySpaces_7 : decode prog_4_method_9_code 7 = .ok (.aload_n 0, 1) := by decide +kernel
theorem dTa_onlySpaces_8 : decode prog_4_method_9_code 8 = .ok (.iload_n 3, 1) := by decide +kernel
theorem dTa_onlySpaces_9 : decode prog_4_method_9_code 9 = .ok (.caload, 1) := by decide +kernel
theorem dTa_onlySpaces_10 : decode prog_4_method_9_code 10 = .ok (.bipush 32, 2) := by decide +kernel
theorem dTa_onlySpaces_12 : decode prog_4_method_9_code 12 = .ok (.if_icmp .eq 5, 3) := by decide +kernel
theorem dTa_onlySpaces_15 : decode prog_4_method_9_code 15 = .ok (.iconst 0, 1) := by decide +kernel
theorem dTa_onlySpaces_16 : decode prog_4_method_9_code 16 = .ok (.ireturn, 1) := by decide +kernel
theorem dTa_onlySpaces_17 : decode prog_4_method_9_code 17 = .ok (.iinc 3 1, 3) := by decide +kernel
theorem dTa_onlySpaces_20 : decode prog_4_method_9_code 20 = .ok (.goto (-18), 3) := by decide +kernel
theorem dTa_onlySpaces_23 : decode prog_4_method_9_code 23 = .ok (.iconst 1, 1) := by decide +kernel
theorem dTa_onlySpaces_24 : decode prog_4_method_9_code 24 = .ok (.ireturn, 1) := by decide +kernel
abbrev qTa_onlySpaces (dC : Nat → ClassId) (dI : Nat → Nat → Nat) (dA : Nat → ClassId) (fr : Nat) (nn : Nat) (D : Int → Int) (f0 : Int) (t0 : Int) (A : Nat → Prop) : Array Value → State → Outcome → State → Prop := QI (dC, dI) vwCl (tyA dA) (fun (r : Int) (v_ : Unit) => (r = 1 ∧ ∀ j, f0 ≤ j → j < t0 → D j = 32) ∨ (r = 0 ∧ ∃ j, f0 ≤ j ∧ j < t0 ∧ D j ≠ 32)) (fun (v_ : Unit) => wCh dA fr nn D []) A
abbrev rmTa_onlySpaces : Room := { frames := 0, cells := 0, slots := 0, locals := 0 }
set_option maxRecDepth 100000 in
set_option maxHeartbeats 1000000 in
theorem cTa_onlySpaces (l : Launch) (dC : Nat → ClassId) (dI : Nat → Nat → Nat) (dA : Nat → ClassId) (fr : Nat) (nn : Nat) (D : Int → Int) (f0 : Int) (t0 : Int) (hf : 0 ≤ f0 ∧ t0 ≤ nn ∧ nn ≤ 100 ∧ f0 ≤ 200 ∧ -200 ≤ t0) (hch : ∀ j, f0 ≤ j → j < t0 → 32 ≤ D j ∧ D j ≤ 126) (sz : Nat) : Met l yTa_onlySpaces wsTa_onlySpaces rmTa_onlySpaces (PC (dC, dI) vwCl (tyA dA) XN [.ref fr, .int (iI f0), .int (iI t0)] (wCh dA fr nn D []) sz) (qTa_onlySpaces dC dI dA fr nn D f0 t0 (va_A (wCh dA fr nn D []) sz)) 0 0 (va_A (wCh dA fr nn D []) sz) := by
  refine met_of (cc := prog_4_method_9_code) (maxL := 4) (ret := (some .boolean)) (Qc := qTa_onlySpaces dC dI dA fr nn D f0 t0) XN_ok (by decide) rfl (Nat.le_of_ble_eq_true rfl) ?_
  intro p e s m below meth c ls A hx hb hr hml hown hts hlocks hnm hK hP hD hA hX hS hl
  have hl : lv_has ls 4 [(0, .ref fr), (1, .int (iI f0)), (2, .int (iI t0))] := hl
  have hown : s.vm.findClass "MacroReckoner$Tape" = some m.cls := hown
  obtain ⟨H, hH⟩ : ∃ H : Heap, H = s.heap := ⟨_, rfl⟩
  obtain ⟨locs, hlo⟩ : ∃ L : List Loc, L = [] := ⟨_, rfl⟩
  have hP : va_P (dC, dI) vwCl (wCh dA fr nn D []) H := hH ▸ hP
  have hS : va_S A s.heap H locs := by rw [hH, hlo]; exact hS
  suffices hgo : W p l e rmTa_onlySpaces s m [.ref fr, .int (iI f0), .int (iI t0)].toArray below meth c H locs 0 0 (MQ below (qTa_onlySpaces dC dI dA fr nn D f0 t0 A) [.ref fr, .int (iI f0), .int (iI t0)].toArray s 0 0 A) (F0 m 0 ls []) by rw [hH, hlo] at hgo; exact hgo
  clear hH hlo
  refine lv_iload_n hx hb dTa_onlySpaces_0 rfl (lv_at hl 1 rfl) ?_
  refine lv_istore_n (lv' := [(3, .int (iI f0)), (0, .ref fr), (1, .int (iI f0)), (2, .int (iI t0))]) hx hb dTa_onlySpaces_1 rfl hl (by decide) rfl (fun ls hl => ?_)
  have L2 : ∀ (n : Nat) (i : Int) (H : Heap) (locs : List Loc) (ls : Array Slot), (f0 ≤ i) → (∀ j, f0 ≤ j → j < i → D j = 32) → (i ≤ t0 ∨ i = f0) → (t0 - i).toNat < n → va_P (dC, dI) vwCl (wCh dA fr nn D []) H → va_D A (wCh dA fr nn D []) → va_S A s.heap H locs → lv_has ls 4 [(3, .int (iI i)), (0, .ref fr), (1, .int (iI f0)), (2, .int (iI t0))] → W p l e rmTa_onlySpaces s m [.ref fr, .int (iI f0), .int (iI t0)].toArray below meth c H locs 0 0 (MQ below (qTa_onlySpaces dC dI dA fr nn D f0 t0 A) [.ref fr, .int (iI f0), .int (iI t0)].toArray s 0 0 A) (F0 m 2 ls []) := by
    intro n
    induction n with
    | zero => intro i H locs ls hi hJ hi2 hn; omega
    | succ n ih =>
      intro i H locs ls hi hJ hi2 hn hP hD hS hl
      have ih2 := ih
      refine lv_iload_n hx hb dTa_onlySpaces_2 rfl (lv_at hl 0 rfl) ?_
      refine lv_iload_n hx hb dTa_onlySpaces_3 rfl (lv_at hl 3 rfl) ?_
      refine iv_icmp_ge (tgt := 23) hx hb dTa_onlySpaces_4 (by decide) ⟨by omega, by omega⟩ ⟨by omega, by omega⟩ (fun hc4 => ?_) (fun hc4 => ?_)
      · refine lv_iconst (v := iI 1) hx hb dTa_onlySpaces_23 rfl ?_
        exact rt_z hx hb hr hlocks hK hS dTa_onlySpaces_24 (nrw_bool (by omega)) () hP hD (show (1 = 1 ∧ ∀ j, f0 ≤ j → j < t0 → D j = 32) ∨ (1 = 0 ∧ ∃ j, f0 ≤ j ∧ j < t0 ∧ D j ≠ 32) from by exact Or.inl ⟨rfl, fun j x y => hJ j x (by omega)⟩)
      · refine lv_aload_n hx hb dTa_onlySpaces_7 rfl (lv_at hl 1 rfl) ?_
        refine lv_iload_n hx hb dTa_onlySpaces_8 rfl (lv_at hl 0 rfl) ?_
        have hdi := hch i hi hc4
        refine iv_cald hx hb hK hP 0 1 rfl rfl (by omega) dTa_onlySpaces_9 (by omega) (by omega) ?_
        refine lv_bipush (v := iI 32) hx hb dTa_onlySpaces_10 (by decide) ?_
        refine iv_icmp_eq (tgt := 17) hx hb dTa_onlySpaces_12 (by decide) ⟨by omega, by omega⟩ ⟨by decide, by decide⟩ (fun hc12 => ?_) (fun hc12 => ?_)
        · refine lv_iinc (k := 0) (lv' := [(3, .int (iI (i + 1))), (0, .ref fr), (1, .int (iI f0)), (2, .int (iI t0))]) (v := iI (i + 1)) hx hb dTa_onlySpaces_17 hl rfl (iI_add _ _).symm (by decide) rfl (fun ls hl => ?_)
          refine lv_goto (tgt := 2) hx hb dTa_onlySpaces_20 (by decide) ?_
          exact ih2 (i + 1) H locs ls (by omega) (by intro j x y; rcases (show j < i ∨ j = i by omega) with z | z; exact hJ j x z; rw [z]; exact hc12) (by omega) (by omega) hP hD hS (lv_sub hl [0, 1, 2, 3] rfl)
        · refine lv_iconst (v := iI 0) hx hb dTa_onlySpaces_15 rfl ?_
          exact rt_z hx hb hr hlocks hK hS dTa_onlySpaces_16 (nrw_bool (by omega)) () hP hD (show (0 = 1 ∧ ∀ j, f0 ≤ j → j < t0 → D j = 32) ∨ (0 = 0 ∧ ∃ j, f0 ≤ j ∧ j < t0 ∧ D j ≠ 32) from by exact Or.inr ⟨rfl, i, hi, hc4, hc12⟩)
  exact L2 _ f0 H locs ls (by omega) (by intro j x y; omega) (by omega) (Nat.lt_succ_self _) hP hD hS (lv_sub hl [0, 1, 2, 3] rfl)

theorem dTa_isBlank_0 : decode prog_4_method_8_code 0 = .ok (.aload_n 0, 1) := by decide +kernel
theorem dTa_isBlank_1 : decode prog_4_method_8_code 1 = .ok (.getfield 16, 3) := by decide +kernel
theorem dTa_isBlank_4 : decode prog_4_method_8_code 4 = .ok (.aload_n 0, 1) := by decide +kernel
theorem dTa_isBlank_5 : decode prog_4_method_8_code 5 = .ok (.getfield 7, 3) := by decide +kernel
theorem dTa_isBlank_8 : decode prog_4_method_8_code 8 = .ok (.aload_n 0, 1) := by decide +kernel
theorem dTa_isBlank_9 : decode prog_4_method_8_code 9 = .ok (.getfield 13, 3) := by decide +kernel
theorem dTa_isBlank_12 : decode prog_4_method_8_code 12 = .ok (.invokestatic 26, 3) := by decide +kernel
theorem dTa_isBlank_15 : decode prog_4_method_8_code 15 = .ok (.ireturn, 1) := by decide +kernel
abbrev qTa_isBlank (dC : Nat → ClassId) (dI : Nat → Nat → Nat) (dA : Nat → ClassId) (ta : Nat) (tr : Nat) (nn : Nat) (D : Int → Int) (at_ : Int) (en : Int) (A : Nat → Prop) : Array Value → State → Outcome → State → Prop := QI (dC, dI) vwCl (tyA dA) (fun (r : Int) (v_ : Unit) => (r = 1 ∧ ∀ j, at_ ≤ j → j < en → D j = 32) ∨ (r = 0 ∧ ∃ j, at_ ≤ j ∧ j < en ∧ D j ≠ 32)) (fun (v_ : Unit) => wTa dA ta tr nn D at_ en []) A
abbrev rmTa_isBlank : Room := { frames := 1, cells := 0, slots := 0, locals := 23 }
set_option maxRecDepth 100000 in
set_option maxHeartbeats 1000000 in
theorem cTa_isBlank (l : Launch) (dC : Nat → ClassId) (dI : Nat → Nat → Nat) (dA : Nat → ClassId) (ta : Nat) (tr : Nat) (nn : Nat) (D : Int → Int) (at_ : Int) (en : Int) (hT : TP nn D at_ en) (sz : Nat) : Met l yTa_isBlank wsTa_isBlank rmTa_isBlank (PC (dC, dI) vwCl (tyA dA) XN [.ref ta] (wTa dA ta tr nn D at_ en []) sz) (qTa_isBlank dC dI dA ta tr nn D at_ en (va_A (wTa dA ta tr nn D at_ en []) sz)) 0 0 (va_A (wTa dA ta tr nn D at_ en []) sz) := by
  refine met_of (cc := prog_4_method_8_code) (maxL := 1) (ret := (some .boolean)) (Qc := qTa_isBlank dC dI dA ta tr nn D at_ en) XN_ok (by decide) rfl (Nat.le_of_ble_eq_true rfl) ?_
  intro p e s m below meth c ls A hx hb hr hml hown hts hlocks hnm hK hP hD hA hX hS hl
  have hl : lv_has ls 1 [(0, .ref ta)] := hl
  have hown : s.vm.findClass "MacroReckoner$Tape" = some m.cls := hown
  obtain ⟨H, hH⟩ : ∃ H : Heap, H = s.heap := ⟨_, rfl⟩
  obtain ⟨locs, hlo⟩ : ∃ L : List Loc, L = [] := ⟨_, rfl⟩
  have hP : va_P (dC, dI) vwCl (wTa dA ta tr nn D at_ en []) H := hH ▸ hP
  have hS : va_S A s.heap H locs := by rw [hH, hlo]; exact hS
  suffices hgo : W p l e rmTa_isBlank s m [.ref ta].toArray below meth c H locs 0 0 (MQ below (qTa_isBlank dC dI dA ta tr nn D at_ en A) [.ref ta].toArray s 0 0 A) (F0 m 0 ls []) by rw [hH, hlo] at hgo; exact hgo
  clear hH hlo
  obtain ⟨ht0, ht1, ht2, ht3, ht4⟩ := hT
  refine lv_aload_n hx hb dTa_isBlank_0 rfl (lv_at hl 0 rfl) ?_
  refine va_get (D := (dC, dI)) (ci := 2) (v := .ref tr) (C := "MacroReckoner$Tape") (T := TTa) (N := 3) hx hb hts inTa hown hK hP 0 rfl rfl 0 (by decide) (hts _ wt1_34) (fun _ h9 => h9) rfl dTa_isBlank_1 ?_
  refine lv_aload_n hx hb dTa_isBlank_4 rfl (lv_at hl 0 rfl) ?_
  refine va_get (D := (dC, dI)) (ci := 2) (v := .int (iI at_)) (C := "MacroReckoner$Tape") (T := TTa) (N := 3) hx hb hts inTa hown hK hP 0 rfl rfl 1 (by decide) (hts _ wt1_36) (fun _ h9 => h9) rfl dTa_isBlank_5 ?_
  refine lv_aload_n hx hb dTa_isBlank_8 rfl (lv_at hl 0 rfl) ?_
  refine va_get (D := (dC, dI)) (ci := 2) (v := .int (iI en)) (C := "MacroReckoner$Tape") (T := TTa) (N := 3) hx hb hts inTa hown hK hP 0 rfl rfl 2 (by decide) (hts _ wt1_38) (fun _ h9 => h9) rfl dTa_isBlank_9 ?_
  refine cv_i (va_runS (As := [.ref tr, .int (iI at_), .int (iI en)]) (rest := []) ⟨hx, hb, hml, hown, hts⟩ (cTa_onlySpaces l dC dI dA tr nn D at_ en (by omega) (by exact ht4) H.size) (cwS 3 hts (gdS wt2_10 wt2_11 wt1_2 wt2_12) rfl rfl rfl ⟨rfl, by decide, by decide, by decide +kernel⟩ ⟨by decide, by decide⟩) (preS hK hP hD hS hA XN_ok trivial [1] rfl rfl) rfl rfl hl.1 rfl (lv_room (Nat.le_of_ble_eq_true rfl)) dTa_isBlank_12 ⟨Nat.zero_le _, Nat.zero_le _⟩) hP hD hS hA [1] [0] rfl (fun v_ => wTa dA ta tr nn D at_ en []) (fun _ => rfl) ((ta, .inr (2, [.ref tr, .int (iI at_), .int (iI en)])) :: []) rfl (fun _ => rfl) [ta, tr] rfl (fun _ => rfl) (fun _ => rfl) (fun r12 u_ H locs hq12 hP hD hS => ?_)
  have hP : va_P (dC, dI) vwCl (wTa dA ta tr nn D at_ en []) H := hP
  have hD : va_D A (wTa dA ta tr nn D at_ en []) := hD
  have hq12 : (r12 = 1 ∧ ∀ j, at_ ≤ j → j < en → D j = 32) ∨ (r12 = 0 ∧ ∃ j, at_ ≤ j ∧ j < en ∧ D j ≠ 32) := hq12
  exact rt_z hx hb hr hlocks hK hS dTa_isBlank_15 (nrw_bool (by omega)) () hP hD (show (r12 = 1 ∧ ∀ j, at_ ≤ j → j < en → D j = 32) ∨ (r12 = 0 ∧ ∃ j, at_ ≤ j ∧ j < en ∧ D j ≠ 32) from by exact hq12)

theorem dPa_room_0 : decode prog_3_method_2_code 0 = .ok (.sipush 200, 3) := by decide +kernel
theorem dPa_room_3 : decode prog_3_method_2_code 3 = .ok (.aload_n 0, 1) := by decide +kernel
theorem dPa_room_4 : decode prog_3_method_2_code 4 = .ok (.getfield 15, 3) := by decide +kernel
theorem dPa_room_7 : decode prog_3_method_2_code 7 = .ok (.isub, 1) := by decide +kernel
theorem dPa_room_8 : decode prog_3_method_2_code 8 = .ok (.ireturn, 1) := by decide +kernel
abbrev qPa_room (dC : Nat → ClassId) (dI : Nat → Nat → Nat) (dA : Nat → ClassId) (pa : Nat) (pr : Nat) (P : Int → Int) (pl : Int) (A : Nat → Prop) : Array Value → State → Outcome → State → Prop := QI (dC, dI) vwCl (tyA dA) (fun (r : Int) (v_ : Unit) => r = 200 - pl) (fun (v_ : Unit) => wPa dA pa pr P pl []) A
abbrev rmPa_room : Room := { frames := 0, cells := 0, slots := 0, locals := 0 }
set_option maxRecDepth 100000 in
set_option maxHeartbeats 1000000 in
theorem cPa_room (l : Launch) (dC : Nat → ClassId) (dI : Nat → Nat → Nat) (dA : Nat → ClassId) (pa : Nat) (pr : Nat) (P : Int → Int) (pl : Int)  (sz : Nat) : Met l yPa_room wsPa_room rmPa_room (PC (dC, dI) vwCl (tyA dA) XN [.ref pa] (wPa dA pa pr P pl []) sz) (qPa_room dC dI dA pa pr P pl (va_A (wPa dA pa pr P pl []) sz)) 0 0 (va_A (wPa dA pa pr P pl []) sz) := by
  refine met_of (cc := prog_3_method_2_code) (maxL := 1) (ret := (some .int)) (Qc := qPa_room dC dI dA pa pr P pl) XN_ok (by decide) rfl (Nat.le_of_ble_eq_true rfl) ?_
  intro p e s m below meth c ls A hx hb hr hml hown hts hlocks hnm hK hP hD hA hX hS hl
  have hl : lv_has ls 1 [(0, .ref pa)] := hl
  have hown : s.vm.findClass "MacroReckoner$Paper" = some m.cls := hown
  obtain ⟨H, hH⟩ : ∃ H : Heap, H = s.heap := ⟨_, rfl⟩
  obtain ⟨locs, hlo⟩ : ∃ L : List Loc, L = [] := ⟨_, rfl⟩
  have hP : va_P (dC, dI) vwCl (wPa dA pa pr P pl []) H := hH ▸ hP
  have hS : va_S A s.heap H locs := by rw [hH, hlo]; exact hS
  suffices hgo : W p l e rmPa_room s m [.ref pa].toArray below meth c H locs 0 0 (MQ below (qPa_room dC dI dA pa pr P pl A) [.ref pa].toArray s 0 0 A) (F0 m 0 ls []) by rw [hH, hlo] at hgo; exact hgo
  clear hH hlo
  refine lv_sipush (v := iI 200) hx hb dPa_room_0 (by decide) ?_
  refine lv_aload_n hx hb dPa_room_3 rfl (lv_at hl 0 rfl) ?_
  refine va_get (D := (dC, dI)) (ci := 1) (v := .int (iI pl)) (C := "MacroReckoner$Paper") (T := TPa) (N := 2) hx hb hts inPa hown hK hP 0 rfl rfl 1 (by decide) (hts _ wt1_166) (fun _ h9 => h9) rfl dPa_room_4 ?_
  refine iv_isub hx hb dPa_room_7 ?_
  exact rt_i hx hb hr hlocks hK hS dPa_room_8 () hP hD (show (200 - pl) = 200 - pl from by rfl)

theorem dPa_clear_0 : decode prog_3_method_3_code 0 = .ok (.aload_n 0, 1) := by decide +kernel
theorem dPa_clear_1 : decode prog_3_method_3_code 1 = .ok (.iconst 0, 1) := by decide +kernel
theorem dPa_clear_2 : decode prog_3_method_3_code 2 = .ok (.putfield 15, 3) := by decide +kernel
theorem dPa_clear_5 : decode prog_3_method_3_code 5 = .ok (.return_, 1) := by decide +kernel
abbrev qPa_clear (dC : Nat → ClassId) (dI : Nat → Nat → Nat) (dA : Nat → ClassId) (pa : Nat) (pr : Nat) (P : Int → Int) (pl : Int) (A : Nat → Prop) : Array Value → State → Outcome → State → Prop := QV (dC, dI) vwCl (tyA dA) (fun (v_ : Unit) => True) (fun (v_ : Unit) => wPa dA pa pr P 0 []) A
abbrev rmPa_clear : Room := { frames := 0, cells := 0, slots := 0, locals := 0 }
set_option maxRecDepth 100000 in
set_option maxHeartbeats 1000000 in
theorem cPa_clear (l : Launch) (dC : Nat → ClassId) (dI : Nat → Nat → Nat) (dA : Nat → ClassId) (pa : Nat) (pr : Nat) (P : Int → Int) (pl : Int)  (sz : Nat) : Met l yPa_clear wsPa_clear rmPa_clear (PC (dC, dI) vwCl (tyA dA) XN [.ref pa] (wPa dA pa pr P pl []) sz) (qPa_clear dC dI dA pa pr P pl (va_A (wPa dA pa pr P pl []) sz)) 0 0 (va_A (wPa dA pa pr P pl []) sz) := by
  refine met_of (cc := prog_3_method_3_code) (maxL := 1) (ret := none) (Qc := qPa_clear dC dI dA pa pr P pl) XN_ok (by decide) rfl (Nat.le_of_ble_eq_true rfl) ?_
  intro p e s m below meth c ls A hx hb hr hml hown hts hlocks hnm hK hP hD hA hX hS hl
  have hl : lv_has ls 1 [(0, .ref pa)] := hl
  have hown : s.vm.findClass "MacroReckoner$Paper" = some m.cls := hown
  obtain ⟨H, hH⟩ : ∃ H : Heap, H = s.heap := ⟨_, rfl⟩
  obtain ⟨locs, hlo⟩ : ∃ L : List Loc, L = [] := ⟨_, rfl⟩
  have hP : va_P (dC, dI) vwCl (wPa dA pa pr P pl []) H := hH ▸ hP
  have hS : va_S A s.heap H locs := by rw [hH, hlo]; exact hS
  suffices hgo : W p l e rmPa_clear s m [.ref pa].toArray below meth c H locs 0 0 (MQ below (qPa_clear dC dI dA pa pr P pl A) [.ref pa].toArray s 0 0 A) (F0 m 0 ls []) by rw [hH, hlo] at hgo; exact hgo
  clear hH hlo
  refine lv_aload_n hx hb dPa_clear_0 rfl (lv_at hl 0 rfl) ?_
  refine lv_iconst (v := iI 0) hx hb dPa_clear_1 rfl ?_
  refine va_put (D := (dC, dI)) (ci := 1) (v := .int (iI 0)) (ty := .int) (C := "MacroReckoner$Paper") (T := TPa) (N := 2) hx hb hts inPa tyPa tyPa_ok nmPa hown hK hP hD hS 0 rfl rfl 1 (by decide) (hts _ wt1_166) (fun _ h9 => h9) rfl (by decide +kernel) rfl rfl (Nat.le_of_ble_eq_true rfl) dPa_clear_2 (fun H locs hP hD hS => ?_)
  have hP : va_P (dC, dI) vwCl (wPa dA pa pr P 0 []) H := hP
  have hD : va_D A (wPa dA pa pr P 0 []) := hD
  exact rt_v hx hb hr hlocks hK hS dPa_clear_5 () hP hD (show True from by trivial)

theorem dPa_put_0 : decode prog_3_method_4_code 0 = .ok (.aload_n 0, 1) := by decide +kernel
theorem dPa_put_1 : decode prog_3_method_4_code 1 = .ok (.getfield 15, 3) := by decide +kernel
theorem dPa_put_4 : decode prog_3_method_4_code 4 = .ok (.sipush 200, 3) := by decide +kernel
theorem dPa_put_7 : decode prog_3_method_4_code 7 = .ok (.if_icmp .ge 23, 3) := by decide +kernel
theorem dPa_put_10 : decode prog_3_method_4_code 10 = .ok (.aload_n 0, 1) := by decide +kernel
theorem dPa_put_11 : decode prog_3_method_4_code 11 = .ok (.getfield 9, 3) := by decide +kernel
theorem dPa_put_14 : decode prog_3_method_4_code 14 = .ok (.aload_n 0, 1) := by decide +kernel
theorem dPa_put_15 : decode prog_3_method_4_code 15 = .ok (.getfield 15, 3) := by decide +kernel
theorem dPa_put_18 : decode prog_3_method_4_code 18 = .ok (.iload_n 1, 1) := by decide +kernel
theorem dPa_put_19 : decode prog_3_method_4_code 19 = .ok (.castore, 1) := by decide +kernel
theorem dPa_put_20 : decode prog_3_method_4_code 20 = .ok (.aload_n 0, 1) := by decide +kernel
theorem dPa_put_21 : decode prog_3_method_4_code 21 = .ok (.dup, 1) := by decide +kernel
theorem dPa_put_22 : decode prog_3_method_4_code 22 = .ok (.getfield 15, 3) := by decide +kernel
theorem dPa_put_25 : decode prog_3_method_4_code 25 = .ok (.iconst 1, 1) := by decide +kernel
theorem dPa_put_26 : decode prog_3_method_4_code 26 = .ok (.iadd, 1) := by decide +kernel
theorem dPa_put_27 : decode prog_3_method_4_code 27 = .ok (.putfield 15, 3) := by decide +kernel
theorem dPa_put_30 : decode prog_3_method_4_code 30 = .ok (.return_, 1) := by decide +kernel
abbrev qPa_put (dC : Nat → ClassId) (dI : Nat → Nat → Nat) (dA : Nat → ClassId) (pa : Nat) (pr : Nat) (P : Int → Int) (pl : Int) (ch : Int) (A : Nat → Prop) : Array Value → State → Outcome → State → Prop := QV (dC, dI) vwCl (tyA dA) (fun (v_ : Unit) => True) (fun (v_ : Unit) => wPa dA pa pr (up P pl ch) (pl + 1) []) A
abbrev rmPa_put : Room := { frames := 0, cells := 0, slots := 0, locals := 0 }
set_option maxRecDepth 100000 in
set_option maxHeartbeats 1000000 in
theorem cPa_put (l : Launch) (dC : Nat → ClassId) (dI : Nat → Nat → Nat) (dA : Nat → ClassId) (pa : Nat) (pr : Nat) (P : Int → Int) (pl : Int) (ch : Int) (hpl : 0 ≤ pl ∧ pl < 200) (hch : 0 ≤ ch ∧ ch < 65536) (sz : Nat) : Met l yPa_put wsPa_put rmPa_put (PC (dC, dI) vwCl (tyA dA) XN [.ref pa, .int (iI ch)] (wPa dA pa pr P pl []) sz) (qPa_put dC dI dA pa pr P pl ch (va_A (wPa dA pa pr P pl []) sz)) 0 0 (va_A (wPa dA pa pr P pl []) sz) := by
  refine met_of (cc := prog_3_method_4_code) (maxL := 2) (ret := none) (Qc := qPa_put dC dI dA pa pr P pl ch) XN_ok (by decide) rfl (Nat.le_of_ble_eq_true rfl) ?_
  intro p e s m below meth c ls A hx hb hr hml hown hts hlocks hnm hK hP hD hA hX hS hl
  have hl : lv_has ls 2 [(0, .ref pa), (1, .int (iI ch))] := hl
  have hown : s.vm.findClass "MacroReckoner$Paper" = some m.cls := hown
  obtain ⟨H, hH⟩ : ∃ H : Heap, H = s.heap := ⟨_, rfl⟩
  obtain ⟨locs, hlo⟩ : ∃ L : List Loc, L = [] := ⟨_, rfl⟩
  have hP : va_P (dC, dI) vwCl (wPa dA pa pr P pl []) H := hH ▸ hP
  have hS : va_S A s.heap H locs := by rw [hH, hlo]; exact hS
  suffices hgo : W p l e rmPa_put s m [.ref pa, .int (iI ch)].toArray below meth c H locs 0 0 (MQ below (qPa_put dC dI dA pa pr P pl ch A) [.ref pa, .int (iI ch)].toArray s 0 0 A) (F0 m 0 ls []) by rw [hH, hlo] at hgo; exact hgo
  clear hH hlo
  refine lv_aload_n hx hb dPa_put_0 rfl (lv_at hl 0 rfl) ?_
  refine va_get (D := (dC, dI)) (ci := 1) (v := .int (iI pl)) (C := "MacroReckoner$Paper") (T := TPa) (N := 2) hx hb hts inPa hown hK hP 0 rfl rfl 1 (by decide) (hts _ wt1_166) (fun _ h9 => h9) rfl dPa_put_1 ?_
  refine lv_sipush (v := iI 200) hx hb dPa_put_4 (by decide) ?_
  refine iv_icmp_ge (tgt := 30) hx hb dPa_put_7 (by decide) ⟨by omega, by omega⟩ ⟨by decide, by decide⟩ (fun hc7 => absurd hc7 (by omega)) (fun hc7 => ?_)
  refine lv_aload_n hx hb dPa_put_10 rfl (lv_at hl 0 rfl) ?_
  refine va_get (D := (dC, dI)) (ci := 1) (v := .ref pr) (C := "MacroReckoner$Paper") (T := TPa) (N := 2) hx hb hts inPa hown hK hP 0 rfl rfl 0 (by decide) (hts _ wt1_164) (fun _ h9 => h9) rfl dPa_put_11 ?_
  refine lv_aload_n hx hb dPa_put_14 rfl (lv_at hl 0 rfl) ?_
  refine va_get (D := (dC, dI)) (ci := 1) (v := .int (iI pl)) (C := "MacroReckoner$Paper") (T := TPa) (N := 2) hx hb hts inPa hown hK hP 0 rfl rfl 1 (by decide) (hts _ wt1_166) (fun _ h9 => h9) rfl dPa_put_15 ?_
  refine lv_iload_n hx hb dPa_put_18 rfl (lv_at hl 1 rfl) ?_
  refine iv_cast (v := ch) hx hb hK hP hD hS 1 1 rfl rfl (by decide) dPa_put_19 (by omega) (by omega) (by omega) (by omega) (fun H locs hP hD hS => ?_)
  have hP : va_P (dC, dI) vwCl (wPa dA pa pr (up P pl ch) pl []) H := hP
  have hD : va_D A (wPa dA pa pr (up P pl ch) pl []) := hD
  refine lv_aload_n hx hb dPa_put_20 rfl (lv_at hl 0 rfl) ?_
  refine lv_dup hx hb dPa_put_21 rfl ?_
  refine va_get (D := (dC, dI)) (ci := 1) (v := .int (iI pl)) (C := "MacroReckoner$Paper") (T := TPa) (N := 2) hx hb hts inPa hown hK hP 0 rfl rfl 1 (by decide) (hts _ wt1_166) (fun _ h9 => h9) rfl dPa_put_22 ?_
  refine lv_iconst (v := iI 1) hx hb dPa_put_25 rfl ?_
  refine iv_iadd hx hb dPa_put_26 ?_
  refine va_put (D := (dC, dI)) (ci := 1) (v := .int (iI (pl + 1))) (ty := .int) (C := "MacroReckoner$Paper") (T := TPa) (N := 2) hx hb hts inPa tyPa tyPa_ok nmPa hown hK hP hD hS 0 rfl rfl 1 (by decide) (hts _ wt1_166) (fun _ h9 => h9) rfl (by decide +kernel) rfl rfl (Nat.le_of_ble_eq_true rfl) dPa_put_27 (fun H locs hP hD hS => ?_)
  have hP : va_P (dC, dI) vwCl (wPa dA pa pr (up P pl ch) (pl + 1) []) H := hP
  have hD : va_D A (wPa dA pa pr (up P pl ch) (pl + 1) []) := hD
  exact rt_v hx hb hr hlocks hK hS dPa_put_30 () hP hD (show True from by trivial)

theorem dTo_isDigit_0 : decode prog_5_method_8_code 0 = .ok (.iload_n 0, 1) := by decide +kernel
theorem dTo_isDigit_1 : decode prog_5_method_8_code 1 = .ok (.bipush 48, 2) := by decide +kernel
theorem dTo_isDigit_3 : decode prog_5_method_8_code 3 = .ok (.if_icmp .lt 13, 3) := by decide +kernel
theorem dTo_isDigit_6 : decode prog_5_method_8_code 6 = .ok (.iload_n 0, 1) := by decide +kernel
theorem dTo_isDigit_7 : decode prog_5_method_8_code 7 = .ok (.bipush 57, 2) := by decide +kernel
theorem dTo_isDigit_9 : decode prog_5_method_8_code 9 = .ok (.if_icmp .gt 7, 3) := by decide +kernel
theorem dTo_isDigit_12 : decode prog_5_method_8_code 12 = .ok (.iconst 1, 1) := by decide +kernel
theorem dTo_isDigit_13 : decode prog_5_method_8_code 13 = .ok (.goto 4, 3) := by decide +kernel
theorem dTo_isDigit_16 : decode prog_5_method_8_code 16 = .ok (.iconst 0, 1) := by decide +kernel
theorem dTo_isDigit_17 : decode prog_5_method_8_code 17 = .ok (.ireturn, 1) := by decide +kernel
abbrev qTo_isDigit (dC : Nat → ClassId) (dI : Nat → Nat → Nat) (dA : Nat → ClassId) (ch : Int) (A : Nat → Prop) : Array Value → State → Outcome → State → Prop := QI (dC, dI) vwCl (tyA dA) (fun (r : Int) (v_ : Unit) => (r = 1 ∧ 48 ≤ ch ∧ ch ≤ 57) ∨ (r = 0 ∧ (ch < 48 ∨ 57 < ch))) (fun (v_ : Unit) => ([] : va_W)) A
abbrev rmTo_isDigit : Room := { frames := 0, cells := 0, slots := 0, locals := 0 }
set_option maxRecDepth 100000 in
set_option maxHeartbeats 1000000 in
theorem cTo_isDigit (l : Launch) (dC : Nat → ClassId) (dI : Nat → Nat → Nat) (dA : Nat → ClassId) (ch : Int) (hch : 0 ≤ ch ∧ ch < 65536) (sz : Nat) : Met l yTo_isDigit wsTo_isDigit rmTo_isDigit (PC (dC, dI) vwCl (tyA dA) XN [.int (iI ch)] (([] : va_W)) sz) (qTo_isDigit dC dI dA ch (va_A (([] : va_W)) sz)) 0 0 (va_A (([] : va_W)) sz) := by
  refine met_of (cc := prog_5_method_8_code) (maxL := 1) (ret := (some .boolean)) (Qc := qTo_isDigit dC dI dA ch) XN_ok (by decide) rfl (Nat.le_of_ble_eq_true rfl) ?_
  intro p e s m below meth c ls A hx hb hr hml hown hts hlocks hnm hK hP hD hA hX hS hl
  have hl : lv_has ls 1 [(0, .int (iI ch))] := hl
  have hown : s.vm.findClass "MacroReckoner$Token" = some m.cls := hown
  obtain ⟨H, hH⟩ : ∃ H : Heap, H = s.heap := ⟨_, rfl⟩
  obtain ⟨locs, hlo⟩ : ∃ L : List Loc, L = [] := ⟨_, rfl⟩
  have hP : va_P (dC, dI) vwCl (([] : va_W)) H := hH ▸ hP
  have hS : va_S A s.heap H locs := by rw [hH, hlo]; exact hS
  suffices hgo : W p l e rmTo_isDigit s m [.int (iI ch)].toArray below meth c H locs 0 0 (MQ below (qTo_isDigit dC dI dA ch A) [.int (iI ch)].toArray s 0 0 A) (F0 m 0 ls []) by rw [hH, hlo] at hgo; exact hgo
  clear hH hlo
  refine lv_iload_n hx hb dTo_isDigit_0 rfl (lv_at hl 0 rfl) ?_
  refine lv_bipush (v := iI 48) hx hb dTo_isDigit_1 (by decide) ?_
  refine iv_icmp_lt (tgt := 16) hx hb dTo_isDigit_3 (by decide) ⟨by omega, by omega⟩ ⟨by decide, by decide⟩ (fun hc3 => ?_) (fun hc3 => ?_)
  · refine lv_iconst (v := iI 0) hx hb dTo_isDigit_16 rfl ?_
    exact rt_z hx hb hr hlocks hK hS dTo_isDigit_17 (nrw_bool (by omega)) () hP hD (show (0 = 1 ∧ 48 ≤ ch ∧ ch ≤ 57) ∨ (0 = 0 ∧ (ch < 48 ∨ 57 < ch)) from by omega)
  · refine lv_iload_n hx hb dTo_isDigit_6 rfl (lv_at hl 0 rfl) ?_
    refine lv_bipush (v := iI 57) hx hb dTo_isDigit_7 (by decide) ?_
    refine iv_icmp_gt (tgt := 16) hx hb dTo_isDigit_9 (by decide) ⟨by omega, by omega⟩ ⟨by decide, by decide⟩ (fun hc9 => ?_) (fun hc9 => ?_)
    · refine lv_iconst (v := iI 0) hx hb dTo_isDigit_16 rfl ?_
      exact rt_z hx hb hr hlocks hK hS dTo_isDigit_17 (nrw_bool (by omega)) () hP hD (show (0 = 1 ∧ 48 ≤ ch ∧ ch ≤ 57) ∨ (0 = 0 ∧ (ch < 48 ∨ 57 < ch)) from by omega)
    · refine lv_iconst (v := iI 1) hx hb dTo_isDigit_12 rfl ?_
      refine lv_goto (tgt := 17) hx hb dTo_isDigit_13 (by decide) ?_
      exact rt_z hx hb hr hlocks hK hS dTo_isDigit_17 (nrw_bool (by omega)) () hP hD (show (1 = 1 ∧ 48 ≤ ch ∧ ch ≤ 57) ∨ (1 = 0 ∧ (ch < 48 ∨ 57 < ch)) from by omega)

theorem dTo_startsNumeral_0 : decode prog_5_method_7_code 0 = .ok (.iload_n 0, 1) := by decide +kernel
theorem dTo_startsNumeral_1 : decode prog_5_method_7_code 1 = .ok (.bipush 95, 2) := by decide +kernel
theorem dTo_startsNumeral_3 : decode prog_5_method_7_code 3 = .ok (.if_icmp .eq 16, 3) := by decide +kernel
theorem dTo_startsNumeral_6 : decode prog_5_method_7_code 6 = .ok (.iload_n 0, 1) := by decide +kernel
theorem dTo_startsNumeral_7 : decode prog_5_method_7_code 7 = .ok (.bipush 46, 2) := by decide +kernel
theorem dTo_startsNumeral_9 : decode prog_5_method_7_code 9 = .ok (.if_icmp .eq 10, 3) := by decide +kernel
theorem dTo_startsNumeral_12 : decode prog_5_method_7_code 12 = .ok (.iload_n 0, 1) := by decide +kernel
theorem dTo_startsNumeral_13 : decode prog_5_method_7_code 13 = .ok (.invokestatic 59, 3) := by decide +kernel
theorem dTo_startsNumeral_16 : decode prog_5_method_7_code 16 = .ok (.ifCond .eq 7, 3) := by decide +kernel
theorem dTo_startsNumeral_19 : decode prog_5_method_7_code 19 = .ok (.iconst 1, 1) := by decide +kernel
theorem dTo_startsNumeral_20 : decode prog_5_method_7_code 20 = .ok (.goto 4, 3) := by decide +kernel
theorem dTo_startsNumeral_23 : decode prog_5_method_7_code 23 = .ok (.iconst 0, 1) := by decide +kernel
theorem dTo_startsNumeral_24 : decode prog_5_method_7_code 24 = .ok (.ireturn, 1) := by decide +kernel
abbrev qTo_startsNumeral (dC : Nat → ClassId) (dI : Nat → Nat → Nat) (dA : Nat → ClassId) (ch : Int) (A : Nat → Prop) : Array Value → State → Outcome → State → Prop := QI (dC, dI) vwCl (tyA dA) (fun (r : Int) (v_ : Unit) => (r = 1 ∧ (ch = 95 ∨ ch = 46 ∨ (48 ≤ ch ∧ ch ≤ 57))) ∨ (r = 0 ∧ ch ≠ 95 ∧ ch ≠ 46 ∧ (ch < 48 ∨ 57 < ch))) (fun (v_ : Unit) => ([] : va_W)) A
abbrev rmTo_startsNumeral : Room := { frames := 1, cells := 0, slots := 0, locals := 20 }
set_option maxRecDepth 100000 in
set_option maxHeartbeats 1000000 in
theorem cTo_startsNumeral (l : Launch) (dC : Nat → ClassId) (dI : Nat → Nat → Nat) (dA : Nat → ClassId) (ch : Int) (hch : 0 ≤ ch ∧ ch < 65536) (sz : Nat) : Met l yTo_startsNumeral wsTo_startsNumeral rmTo_startsNumeral (PC (dC, dI) vwCl (tyA dA) XN [.int (iI ch)] (([] : va_W)) sz) (qTo_startsNumeral dC dI dA ch (va_A (([] : va_W)) sz)) 0 0 (va_A (([] : va_W)) sz) := by
  refine met_of (cc := prog_5_method_7_code) (maxL := 1) (ret := (some .boolean)) (Qc := qTo_startsNumeral dC dI dA ch) XN_ok (by decide) rfl (Nat.le_of_ble_eq_true rfl) ?_
  intro p e s m below meth c ls A hx hb hr hml hown hts hlocks hnm hK hP hD hA hX hS hl
  have hl : lv_has ls 1 [(0, .int (iI ch))] := hl
  have hown : s.vm.findClass "MacroReckoner$Token" = some m.cls := hown
  obtain ⟨H, hH⟩ : ∃ H : Heap, H = s.heap := ⟨_, rfl⟩
  obtain ⟨locs, hlo⟩ : ∃ L : List Loc, L = [] := ⟨_, rfl⟩
  have hP : va_P (dC, dI) vwCl (([] : va_W)) H := hH ▸ hP
  have hS : va_S A s.heap H locs := by rw [hH, hlo]; exact hS
  suffices hgo : W p l e rmTo_startsNumeral s m [.int (iI ch)].toArray below meth c H locs 0 0 (MQ below (qTo_startsNumeral dC dI dA ch A) [.int (iI ch)].toArray s 0 0 A) (F0 m 0 ls []) by rw [hH, hlo] at hgo; exact hgo
  clear hH hlo
  refine lv_iload_n hx hb dTo_startsNumeral_0 rfl (lv_at hl 0 rfl) ?_
  refine lv_bipush (v := iI 95) hx hb dTo_startsNumeral_1 (by decide) ?_
  refine iv_icmp_eq (tgt := 19) hx hb dTo_startsNumeral_3 (by decide) ⟨by omega, by omega⟩ ⟨by decide, by decide⟩ (fun hc3 => ?_) (fun hc3 => ?_)
  · refine lv_iconst (v := iI 1) hx hb dTo_startsNumeral_19 rfl ?_
    refine lv_goto (tgt := 24) hx hb dTo_startsNumeral_20 (by decide) ?_
    exact rt_z hx hb hr hlocks hK hS dTo_startsNumeral_24 (nrw_bool (by omega)) () hP hD (show (1 = 1 ∧ (ch = 95 ∨ ch = 46 ∨ (48 ≤ ch ∧ ch ≤ 57))) ∨ (1 = 0 ∧ ch ≠ 95 ∧ ch ≠ 46 ∧ (ch < 48 ∨ 57 < ch)) from by omega)
  · refine lv_iload_n hx hb dTo_startsNumeral_6 rfl (lv_at hl 0 rfl) ?_
    refine lv_bipush (v := iI 46) hx hb dTo_startsNumeral_7 (by decide) ?_
    refine iv_icmp_eq (tgt := 19) hx hb dTo_startsNumeral_9 (by decide) ⟨by omega, by omega⟩ ⟨by decide, by decide⟩ (fun hc9 => ?_) (fun hc9 => ?_)
    · refine lv_iconst (v := iI 1) hx hb dTo_startsNumeral_19 rfl ?_
      refine lv_goto (tgt := 24) hx hb dTo_startsNumeral_20 (by decide) ?_
      exact rt_z hx hb hr hlocks hK hS dTo_startsNumeral_24 (nrw_bool (by omega)) () hP hD (show (1 = 1 ∧ (ch = 95 ∨ ch = 46 ∨ (48 ≤ ch ∧ ch ≤ 57))) ∨ (1 = 0 ∧ ch ≠ 95 ∧ ch ≠ 46 ∧ (ch < 48 ∨ 57 < ch)) from by omega)
    · refine lv_iload_n hx hb dTo_startsNumeral_12 rfl (lv_at hl 0 rfl) ?_
      refine cv_i (va_runS (As := [.int (iI ch)]) (rest := []) ⟨hx, hb, hml, hown, hts⟩ (cTo_isDigit l dC dI dA ch (by omega) H.size) (cwS 1 hts (gdS wt2_133 wt2_134 wt1_3 wt2_135) rfl rfl rfl ⟨rfl, by decide, by decide, by decide +kernel⟩ ⟨by decide, by decide⟩) (preS hK hP hD hS hA XN_ok trivial [] rfl rfl) rfl rfl hl.1 rfl (lv_room (Nat.le_of_ble_eq_true rfl)) dTo_startsNumeral_13 ⟨Nat.zero_le _, Nat.zero_le _⟩) hP hD hS hA [] [] rfl (fun v_ => ([] : va_W)) (fun _ => rfl) ([] : va_W) rfl (fun _ => rfl) [] rfl (fun _ => rfl) (fun _ => rfl) (fun r13 u_ H locs hq13 hP hD hS => ?_)
      have hP : va_P (dC, dI) vwCl (([] : va_W)) H := hP
      have hD : va_D A (([] : va_W)) := hD
      have hq13 : (r13 = 1 ∧ 48 ≤ ch ∧ ch ≤ 57) ∨ (r13 = 0 ∧ (ch < 48 ∨ 57 < ch)) := hq13
      refine iv_if_eq (tgt := 23) hx hb dTo_startsNumeral_16 (by decide) ⟨by omega, by omega⟩ (fun hc16 => ?_) (fun hc16 => ?_)
      · refine lv_iconst (v := iI 0) hx hb dTo_startsNumeral_23 rfl ?_
        exact rt_z hx hb hr hlocks hK hS dTo_startsNumeral_24 (nrw_bool (by omega)) () hP hD (show (0 = 1 ∧ (ch = 95 ∨ ch = 46 ∨ (48 ≤ ch ∧ ch ≤ 57))) ∨ (0 = 0 ∧ ch ≠ 95 ∧ ch ≠ 46 ∧ (ch < 48 ∨ 57 < ch)) from by omega)
      · refine lv_iconst (v := iI 1) hx hb dTo_startsNumeral_19 rfl ?_
        refine lv_goto (tgt := 24) hx hb dTo_startsNumeral_20 (by decide) ?_
        exact rt_z hx hb hr hlocks hK hS dTo_startsNumeral_24 (nrw_bool (by omega)) () hP hD (show (1 = 1 ∧ (ch = 95 ∨ ch = 46 ∨ (48 ≤ ch ∧ ch ≤ 57))) ∨ (1 = 0 ∧ ch ≠ 95 ∧ ch ≠ 46 ∧ (ch < 48 ∨ 57 < ch)) from by omega)
