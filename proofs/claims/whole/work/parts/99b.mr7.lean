theorem dMr_perform_0 : decode prog_1_method_18_code 0 = .ok (.iload_n 1, 1) := by decide +kernel
theorem dMr_perform_1 : decode prog_1_method_18_code 1 = .ok (.tableswitch 518 37 122 #[369, 518, 518, 518, 518, 369, 369, 518, 369, 518, 369, 359, 518, 518, 518, 518, 518, 518, 518, 518, 518, 518, 518, 495, 495, 495, 518, 518, 518, 518, 518, 518, 518, 518, 518, 518, 518, 518, 415, 518, 518, 518, 518, 518, 518, 518, 518, 518, 518, 518, 518, 450, 518, 444, 364, 518, 518, 369, 518, 518, 518, 518, 401, 380, 518, 439, 518, 518, 518, 518, 424, 473, 518, 434, 518, 429, 513, 396, 456, 518, 518, 375, 518, 490, 518, 406], 359) := by decide +kernel
theorem dMr_perform_360 : decode prog_1_method_18_code 360 = .ok (.aload_n 0, 1) := by decide +kernel
theorem dMr_perform_361 : decode prog_1_method_18_code 361 = .ok (.invokevirtual 149, 3) := by decide +kernel
theorem dMr_perform_364 : decode prog_1_method_18_code 364 = .ok (.ireturn, 1) := by decide +kernel
theorem dMr_perform_365 : decode prog_1_method_18_code 365 = .ok (.aload_n 0, 1) := by decide +kernel
theorem dMr_perform_366 : decode prog_1_method_18_code 366 = .ok (.invokevirtual 152, 3) := by decide +kernel
theorem dMr_perform_369 : decode prog_1_method_18_code 369 = .ok (.ireturn, 1) := by decide +kernel
theorem dMr_perform_370 : decode prog_1_method_18_code 370 = .ok (.aload_n 0, 1) := by decide +kernel
theorem dMr_perform_371 : decode prog_1_method_18_code 371 = .ok (.iload_n 1, 1) := by decide +kernel
theorem dMr_perform_372 : decode prog_1_method_18_code 372 = .ok (.invokevirtual 155, 3) := by decide +kernel
theorem dMr_perform_375 : decode prog_1_method_18_code 375 = .ok (.ireturn, 1) := by decide +kernel
theorem dMr_perform_376 : decode prog_1_method_18_code 376 = .ok (.aload_n 0, 1) := by decide +kernel
theorem dMr_perform_377 : decode prog_1_method_18_code 377 = .ok (.invokevirtual 158, 3) := by decide +kernel
theorem dMr_perform_380 : decode prog_1_method_18_code 380 = .ok (.ireturn, 1) := by decide +kernel
theorem dMr_perform_381 : decode prog_1_method_18_code 381 = .ok (.aload_n 0, 1) := by decide +kernel
theorem dMr_perform_382 : decode prog_1_method_18_code 382 = .ok (.aload_n 0, 1) := by decide +kernel
theorem dMr_perform_383 : decode prog_1_method_18_code 383 = .ok (.getfield 35, 3) := by decide +kernel
theorem dMr_perform_386 : decode prog_1_method_18_code 386 = .ok (.aload_n 0, 1) := by decide +kernel
theorem dMr_perform_387 : decode prog_1_method_18_code 387 = .ok (.getfield 39, 3) := by decide +kernel
theorem dMr_perform_390 : decode prog_1_method_18_code 390 = .ok (.iconst 1, 1) := by decide +kernel
theorem dMr_perform_391 : decode prog_1_method_18_code 391 = .ok (.isub, 1) := by decide +kernel
theorem dMr_perform_392 : decode prog_1_method_18_code 392 = .ok (.aaload, 1) := by decide +kernel
theorem dMr_perform_393 : decode prog_1_method_18_code 393 = .ok (.invokevirtual 161, 3) := by decide +kernel
theorem dMr_perform_396 : decode prog_1_method_18_code 396 = .ok (.ireturn, 1) := by decide +kernel
theorem dMr_perform_397 : decode prog_1_method_18_code 397 = .ok (.aload_n 0, 1) := by decide +kernel
theorem dMr_perform_398 : decode prog_1_method_18_code 398 = .ok (.invokevirtual 165, 3) := by decide +kernel
theorem dMr_perform_401 : decode prog_1_method_18_code 401 = .ok (.ireturn, 1) := by decide +kernel
theorem dMr_perform_402 : decode prog_1_method_18_code 402 = .ok (.aload_n 0, 1) := by decide +kernel
theorem dMr_perform_403 : decode prog_1_method_18_code 403 = .ok (.invokevirtual 168, 3) := by decide +kernel
theorem dMr_perform_406 : decode prog_1_method_18_code 406 = .ok (.ireturn, 1) := by decide +kernel
theorem dMr_perform_407 : decode prog_1_method_18_code 407 = .ok (.aload_n 0, 1) := by decide +kernel
theorem dMr_perform_408 : decode prog_1_method_18_code 408 = .ok (.aload_n 0, 1) := by decide +kernel
theorem dMr_perform_409 : decode prog_1_method_18_code 409 = .ok (.getfield 39, 3) := by decide +kernel
theorem dMr_perform_412 : decode prog_1_method_18_code 412 = .ok (.invokevirtual 171, 3) := by decide +kernel
theorem dMr_perform_415 : decode prog_1_method_18_code 415 = .ok (.ireturn, 1) := by decide +kernel
theorem dMr_perform_416 : decode prog_1_method_18_code 416 = .ok (.aload_n 0, 1) := by decide +kernel
theorem dMr_perform_417 : decode prog_1_method_18_code 417 = .ok (.aload_n 0, 1) := by decide +kernel
theorem dMr_perform_418 : decode prog_1_method_18_code 418 = .ok (.getfield 45, 3) := by decide +kernel
theorem dMr_perform_421 : decode prog_1_method_18_code 421 = .ok (.invokevirtual 171, 3) := by decide +kernel
theorem dMr_perform_424 : decode prog_1_method_18_code 424 = .ok (.ireturn, 1) := by decide +kernel
theorem dMr_perform_425 : decode prog_1_method_18_code 425 = .ok (.aload_n 0, 1) := by decide +kernel
theorem dMr_perform_426 : decode prog_1_method_18_code 426 = .ok (.invokevirtual 174, 3) := by decide +kernel
theorem dMr_perform_429 : decode prog_1_method_18_code 429 = .ok (.ireturn, 1) := by decide +kernel
theorem dMr_perform_430 : decode prog_1_method_18_code 430 = .ok (.aload_n 0, 1) := by decide +kernel
theorem dMr_perform_431 : decode prog_1_method_18_code 431 = .ok (.invokevirtual 177, 3) := by decide +kernel
theorem dMr_perform_434 : decode prog_1_method_18_code 434 = .ok (.ireturn, 1) := by decide +kernel
theorem dMr_perform_435 : decode prog_1_method_18_code 435 = .ok (.aload_n 0, 1) := by decide +kernel
theorem dMr_perform_436 : decode prog_1_method_18_code 436 = .ok (.invokevirtual 180, 3) := by decide +kernel
theorem dMr_perform_439 : decode prog_1_method_18_code 439 = .ok (.ireturn, 1) := by decide +kernel
theorem dMr_perform_440 : decode prog_1_method_18_code 440 = .ok (.aload_n 0, 1) := by decide +kernel
theorem dMr_perform_441 : decode prog_1_method_18_code 441 = .ok (.invokevirtual 183, 3) := by decide +kernel
theorem dMr_perform_444 : decode prog_1_method_18_code 444 = .ok (.ireturn, 1) := by decide +kernel
theorem dMr_perform_445 : decode prog_1_method_18_code 445 = .ok (.aload_n 0, 1) := by decide +kernel
theorem dMr_perform_446 : decode prog_1_method_18_code 446 = .ok (.iconst 1, 1) := by decide +kernel
theorem dMr_perform_447 : decode prog_1_method_18_code 447 = .ok (.invokevirtual 186, 3) := by decide +kernel
theorem dMr_perform_450 : decode prog_1_method_18_code 450 = .ok (.ireturn, 1) := by decide +kernel
theorem dMr_perform_451 : decode prog_1_method_18_code 451 = .ok (.aload_n 0, 1) := by decide +kernel
theorem dMr_perform_452 : decode prog_1_method_18_code 452 = .ok (.iconst 0, 1) := by decide +kernel
theorem dMr_perform_453 : decode prog_1_method_18_code 453 = .ok (.invokevirtual 186, 3) := by decide +kernel
theorem dMr_perform_456 : decode prog_1_method_18_code 456 = .ok (.ireturn, 1) := by decide +kernel
theorem dMr_perform_457 : decode prog_1_method_18_code 457 = .ok (.aload_n 0, 1) := by decide +kernel
theorem dMr_perform_458 : decode prog_1_method_18_code 458 = .ok (.aload_n 0, 1) := by decide +kernel
theorem dMr_perform_459 : decode prog_1_method_18_code 459 = .ok (.getfield 42, 3) := by decide +kernel
theorem dMr_perform_462 : decode prog_1_method_18_code 462 = .ok (.aload_n 0, 1) := by decide +kernel
theorem dMr_perform_463 : decode prog_1_method_18_code 463 = .ok (.getfield 29, 3) := by decide +kernel
theorem dMr_perform_466 : decode prog_1_method_18_code 466 = .ok (.getfield 190, 3) := by decide +kernel
theorem dMr_perform_469 : decode prog_1_method_18_code 469 = .ok (.aaload, 1) := by decide +kernel
theorem dMr_perform_470 : decode prog_1_method_18_code 470 = .ok (.invokevirtual 193, 3) := by decide +kernel
theorem dMr_perform_473 : decode prog_1_method_18_code 473 = .ok (.ireturn, 1) := by decide +kernel
theorem dMr_perform_474 : decode prog_1_method_18_code 474 = .ok (.aload_n 0, 1) := by decide +kernel
theorem dMr_perform_475 : decode prog_1_method_18_code 475 = .ok (.aload_n 0, 1) := by decide +kernel
theorem dMr_perform_476 : decode prog_1_method_18_code 476 = .ok (.getfield 42, 3) := by decide +kernel
theorem dMr_perform_479 : decode prog_1_method_18_code 479 = .ok (.aload_n 0, 1) := by decide +kernel
theorem dMr_perform_480 : decode prog_1_method_18_code 480 = .ok (.getfield 29, 3) := by decide +kernel
theorem dMr_perform_483 : decode prog_1_method_18_code 483 = .ok (.getfield 190, 3) := by decide +kernel
theorem dMr_perform_486 : decode prog_1_method_18_code 486 = .ok (.aaload, 1) := by decide +kernel
theorem dMr_perform_487 : decode prog_1_method_18_code 487 = .ok (.invokevirtual 161, 3) := by decide +kernel
theorem dMr_perform_490 : decode prog_1_method_18_code 490 = .ok (.ireturn, 1) := by decide +kernel
theorem dMr_perform_491 : decode prog_1_method_18_code 491 = .ok (.aload_n 0, 1) := by decide +kernel
theorem dMr_perform_492 : decode prog_1_method_18_code 492 = .ok (.invokevirtual 196, 3) := by decide +kernel
theorem dMr_perform_495 : decode prog_1_method_18_code 495 = .ok (.ireturn, 1) := by decide +kernel
theorem dMr_perform_496 : decode prog_1_method_18_code 496 = .ok (.aload_n 0, 1) := by decide +kernel
theorem dMr_perform_497 : decode prog_1_method_18_code 497 = .ok (.iload_n 1, 1) := by decide +kernel
theorem dMr_perform_498 : decode prog_1_method_18_code 498 = .ok (.aload_n 0, 1) := by decide +kernel
theorem dMr_perform_499 : decode prog_1_method_18_code 499 = .ok (.getfield 42, 3) := by decide +kernel
theorem dMr_perform_502 : decode prog_1_method_18_code 502 = .ok (.aload_n 0, 1) := by decide +kernel
theorem dMr_perform_503 : decode prog_1_method_18_code 503 = .ok (.getfield 29, 3) := by decide +kernel
theorem dMr_perform_506 : decode prog_1_method_18_code 506 = .ok (.getfield 190, 3) := by decide +kernel
theorem dMr_perform_509 : decode prog_1_method_18_code 509 = .ok (.aaload, 1) := by decide +kernel
theorem dMr_perform_510 : decode prog_1_method_18_code 510 = .ok (.invokevirtual 199, 3) := by decide +kernel
theorem dMr_perform_513 : decode prog_1_method_18_code 513 = .ok (.ireturn, 1) := by decide +kernel
theorem dMr_perform_514 : decode prog_1_method_18_code 514 = .ok (.aload_n 0, 1) := by decide +kernel
theorem dMr_perform_515 : decode prog_1_method_18_code 515 = .ok (.invokevirtual 203, 3) := by decide +kernel
theorem dMr_perform_518 : decode prog_1_method_18_code 518 = .ok (.ireturn, 1) := by decide +kernel
theorem dMr_perform_519 : decode prog_1_method_18_code 519 = .ok (.iconst (-1), 1) := by decide +kernel
theorem dMr_perform_520 : decode prog_1_method_18_code 520 = .ok (.ireturn, 1) := by decide +kernel
abbrev qMr_perform (dC : Nat → ClassId) (dI : Nat → Nat → Nat) (dA : Nat → ClassId) (dS : Nat → Nat) (b : Nat) (tr : Int) (hg : Int) (wk : Int) (at_ : Int) (en : Int) (cm : Int) (rg : Int) (st0 : Int) (en0 : Int) (lg : Int) (tR : Int) (ngR : Int) (scR : Int) (lnR : Int) (uR : Int) (lu : Int) (ru : Int) (su : Int) (qu : Int) (pl : Int) (rv : Value) (si : Int → Nat) (D : Int → Int) (CR : Int → Int) (FR : Int → Int) (LF : Int → Int) (RF : Int → Int) (SF : Int → Int) (QF : Int → Int) (P : Int → Int) (vs : Nat → VS) (tp : Nat → TS) (st : AS) (E : Int → Int) (n0 : Int) (c0 : Int) (A : Nat → Prop) : Array Value → State → Outcome → State → Prop := QI (dC, dI) vwCl (tyA dA) (fun (r : Int) (v_ : (Nat → VS) × Int × (Nat → TS) × Int × Int × (Int → Nat) × (Int → Int) × Int × Value × Int × Int × Int × Int × Int × (Int → Int) × (Int → Int) × (Int → Int) × Int × (Int → Int) × Int × (Int → Int) × Int × (Int → Int) × Int) => r = (perfA st c0 (E 1 - 97) E lg).1 ∧ CH v_.2.2.2.2.2.1 v_.1 v_.2.2.2.1 v_.2.2.2.2.1 (perfA st c0 (E 1 - 97) E lg).2 ∧ CX v_.2.2.1 v_.2.1 (perfA st c0 (E 1 - 97) E lg).2 ∧ MG v_.2.2.2.2.2.2.1 v_.2.2.2.2.2.2.2.1 (perfA st c0 (E 1 - 97) E lg).2) (fun (v_ : (Nat → VS) × Int × (Nat → TS) × Int × Int × (Int → Nat) × (Int → Int) × Int × Value × Int × Int × Int × Int × Int × (Int → Int) × (Int → Int) × (Int → Int) × Int × (Int → Int) × Int × (Int → Int) × Int × (Int → Int) × Int) => wMr dA b v_.2.1 v_.2.2.2.1 v_.2.2.2.2.1 at_ en cm rg st0 en0 lg v_.2.2.2.2.2.2.2.2.2.1 v_.2.2.2.2.2.2.2.2.2.2.1 v_.2.2.2.2.2.2.2.2.2.2.2.1 v_.2.2.2.2.2.2.2.2.2.2.2.2.1 v_.2.2.2.2.2.2.2.2.2.2.2.2.2.1 v_.2.2.2.2.2.2.2.2.2.2.2.2.2.2.2.2.2.1 v_.2.2.2.2.2.2.2.2.2.2.2.2.2.2.2.2.2.2.2.1 v_.2.2.2.2.2.2.2.2.2.2.2.2.2.2.2.2.2.2.2.2.2.1 v_.2.2.2.2.2.2.2.2.2.2.2.2.2.2.2.2.2.2.2.2.2.2.2 v_.2.2.2.2.2.2.2.1 v_.2.2.2.2.2.2.2.2.1 v_.2.2.2.2.2.1 D v_.2.2.2.2.2.2.2.2.2.2.2.2.2.2.2.1 v_.2.2.2.2.2.2.2.2.2.2.2.2.2.2.1 v_.2.2.2.2.2.2.2.2.2.2.2.2.2.2.2.2.1 v_.2.2.2.2.2.2.2.2.2.2.2.2.2.2.2.2.2.2.1 v_.2.2.2.2.2.2.2.2.2.2.2.2.2.2.2.2.2.2.2.2.1 v_.2.2.2.2.2.2.2.2.2.2.2.2.2.2.2.2.2.2.2.2.2.2.1 v_.2.2.2.2.2.2.1 (tl0 dA b v_.1 v_.2.2.1)) A
abbrev rmMr_perform : Room := { frames := 6, cells := 0, slots := 0, locals := 178 }
set_option maxRecDepth 100000 in
set_option maxHeartbeats 8000000 in
theorem cMr_perform (l : Launch) (dC : Nat → ClassId) (dI : Nat → Nat → Nat) (dA : Nat → ClassId) (dS : Nat → Nat) (b : Nat) (tr : Int) (hg : Int) (wk : Int) (at_ : Int) (en : Int) (cm : Int) (rg : Int) (st0 : Int) (en0 : Int) (lg : Int) (tR : Int) (ngR : Int) (scR : Int) (lnR : Int) (uR : Int) (lu : Int) (ru : Int) (su : Int) (qu : Int) (pl : Int) (rv : Value) (si : Int → Nat) (D : Int → Int) (CR : Int → Int) (FR : Int → Int) (LF : Int → Int) (RF : Int → Int) (SF : Int → Int) (QF : Int → Int) (P : Int → Int) (vs : Nat → VS) (tp : Nat → TS) (st : AS) (E : Int → Int) (n0 : Int) (c0 : Int) (hCH : CH si vs hg wk st) (hCX : CX tp tr st) (hMG : MG P pl st) (hTS : tkS b tp D rv st0 en0 tr E n0) (htr : 0 ≤ tr ∧ tr ≤ 8) (hc0 : 0 ≤ c0 ∧ c0 < 65536) (hnd : need c0 ≤ hg) (hnt : c0 = 107 → (st.stk (st.h - 1)).t = 0) (hk48 : c0 = 48 → (1 ≤ lg ∧ lg ≤ n0 ∧ lg ≤ 100) ∧ (E 0 = 95 ∨ E 0 = 46 ∨ (48 ≤ E 0 ∧ E 0 ≤ 57)) ∧ ∀ j, 1 ≤ j → j < lg → E j = 46 ∨ (48 ≤ E j ∧ E j ≤ 57)) (hk91 : c0 = 91 → 2 ≤ lg ∧ lg ≤ n0 ∧ lg ≤ 100) (hkp : prs c0 → rg = E 1 - 97 ∧ 0 ≤ rg ∧ rg < 26) (sz : Nat) : Met l yMr_perform wsMr_perform rmMr_perform (PC (dC, dI) vwCl (tyA dA) (XC dS) [.ref b, .int (iI c0)] (wMr dA b tr hg wk at_ en cm rg st0 en0 lg tR ngR scR lnR uR lu ru su qu pl rv si D CR FR LF RF SF QF P (tl0 dA b vs tp)) sz) (qMr_perform dC dI dA dS b tr hg wk at_ en cm rg st0 en0 lg tR ngR scR lnR uR lu ru su qu pl rv si D CR FR LF RF SF QF P vs tp st E n0 c0 (va_A (wMr dA b tr hg wk at_ en cm rg st0 en0 lg tR ngR scR lnR uR lu ru su qu pl rv si D CR FR LF RF SF QF P (tl0 dA b vs tp)) sz)) 0 0 (va_A (wMr dA b tr hg wk at_ en cm rg st0 en0 lg tR ngR scR lnR uR lu ru su qu pl rv si D CR FR LF RF SF QF P (tl0 dA b vs tp)) sz) := by
  refine met_of (cc := prog_1_method_18_code) (maxL := 2) (ret := (some .int)) (Qc := qMr_perform dC dI dA dS b tr hg wk at_ en cm rg st0 en0 lg tR ngR scR lnR uR lu ru su qu pl rv si D CR FR LF RF SF QF P vs tp st E n0 c0) (XC_ok dS) (by decide) rfl (Nat.le_of_ble_eq_true rfl) ?_
  intro p e s m below meth c ls A hx hb hr hml hown hts hlocks hnm hK hP hD hA hX hS hl
  have hl : lv_has ls 2 [(0, .ref b), (1, .int (iI c0))] := hl
  have hown : s.vm.findClass "MacroReckoner" = some m.cls := hown
  obtain ⟨H, hH⟩ : ∃ H : Heap, H = s.heap := ⟨_, rfl⟩
  obtain ⟨locs, hlo⟩ : ∃ L : List Loc, L = [] := ⟨_, rfl⟩
  have hP : va_P (dC, dI) vwCl (wMr dA b tr hg wk at_ en cm rg st0 en0 lg tR ngR scR lnR uR lu ru su qu pl rv si D CR FR LF RF SF QF P (tl0 dA b vs tp)) H := hH ▸ hP
  have hS : va_S A s.heap H locs := by rw [hH, hlo]; exact hS
  suffices hgo : W p l e rmMr_perform s m [.ref b, .int (iI c0)].toArray below meth c H locs 0 0 (MQ below (qMr_perform dC dI dA dS b tr hg wk at_ en cm rg st0 en0 lg tR ngR scR lnR uR lu ru su qu pl rv si D CR FR LF RF SF QF P vs tp st E n0 c0 A) [.ref b, .int (iI c0)].toArray s 0 0 A) (F0 m 0 ls []) by rw [hH, hlo] at hgo; exact hgo
  clear hH hlo
  have hh := hCH.1
  have hk9 := hCH.2.1
  have hg9 := hMG.1
  refine lv_iload_n hx hb dMr_perform_0 rfl (lv_at hl 1 rfl) ?_
  by_cases hs1_370 : c0 = 37 ∨ c0 = 42 ∨ c0 = 43 ∨ c0 = 45 ∨ c0 = 47 ∨ c0 = 94
  · refine lv_tableIn (off := 369) (tgt := 370) hx hb dMr_perform_1 (by rw [iI_toInt ⟨by omega, by omega⟩]; omega) (by rw [iI_toInt ⟨by omega, by omega⟩]; omega) (by rw [iI_toInt ⟨by omega, by omega⟩]; rcases hs1_370 with hk | hk | hk | hk | hk | hk <;> (rw [hk]; rfl)) (by decide) ?_
    have hn2 : need c0 = 2 := need_c.1 (by unfold rks; omega)
    refine lv_aload_n hx hb dMr_perform_370 rfl (lv_at hl 0 rfl) ?_
    refine lv_iload_n hx hb dMr_perform_371 rfl (lv_at hl 1 rfl) ?_
    refine cvA_i (va_runV (C := "MacroReckoner") (As := [.int (iI c0)]) (rest := []) ⟨hx, hb, hml, hown, hts⟩ (cMr_calculate l dC dI dA dS b tr hg wk at_ en cm rg st0 en0 lg tR ngR scR lnR uR lu ru su qu pl rv si D CR FR LF RF SF QF P vs tp st c0 (by exact hCH) (by omega) (by omega) H.size) (cwV 1 hts (gdV wt3_58 wt3_60 ws1_14 wt1_1 wt3_61) rfl rfl rfl ⟨rfl, by decide, by decide, by decide +kernel⟩ ⟨by decide, by decide⟩) (preVA (q := ("MacroReckoner", TMr, 11)) hK hP hD hS hA (XC_ok dS) hX 0 rfl rfl) rfl rfl hl.1 rfl (lv_room (Nat.le_of_ble_eq_true rfl)) dMr_perform_372 ⟨Nat.zero_le _, Nat.zero_le _⟩) hD hS hA (fun r372 u_ H locs hq372 hP hD hS => ?_)
    obtain ⟨vs1_372, hg1_372, tR1_372, ngR1_372, scR1_372, lnR1_372, uR1_372, FR1_372, LF1_372, lu1_372, RF1_372, ru1_372, SF1_372, su1_372, QF1_372, qu1_372⟩ := u_
    have hP : va_P (dC, dI) vwCl (wMr dA b tr hg1_372 wk at_ en cm rg st0 en0 lg tR1_372 ngR1_372 scR1_372 lnR1_372 uR1_372 lu1_372 ru1_372 su1_372 qu1_372 pl rv si D CR FR1_372 LF1_372 RF1_372 SF1_372 QF1_372 P (tl0 dA b vs1_372 tp)) H := hP
    have hD : va_D A (wMr dA b tr hg1_372 wk at_ en cm rg st0 en0 lg tR1_372 ngR1_372 scR1_372 lnR1_372 uR1_372 lu1_372 ru1_372 su1_372 qu1_372 pl rv si D CR FR1_372 LF1_372 RF1_372 SF1_372 QF1_372 P (tl0 dA b vs1_372 tp)) := hD
    have hq372 : r372 = (calcA st c0).1 ∧ CH si vs1_372 hg1_372 wk (calcA st c0).2 := hq372
    exact rt_i hx hb hr hlocks hK hS dMr_perform_375 (vs1_372, tr, tp, hg1_372, wk, si, P, pl, rv, tR1_372, ngR1_372, scR1_372, lnR1_372, uR1_372, FR1_372, CR, LF1_372, lu1_372, RF1_372, ru1_372, SF1_372, su1_372, QF1_372, qu1_372) hP hD (show r372 = (perfA st c0 (E 1 - 97) E lg).1 ∧ CH si vs1_372 hg1_372 wk (perfA st c0 (E 1 - 97) E lg).2 ∧ CX tp tr (perfA st c0 (E 1 - 97) E lg).2 ∧ MG P pl (perfA st c0 (E 1 - 97) E lg).2 from by rw [perf_e.1 (by unfold rks; omega)]; exact ⟨hq372.1, hq372.2, CX_kp hCX calc_kp, MG_kp hMG calc_kp⟩)
  by_cases hs1_360 : c0 = 48
  · refine lv_tableIn (off := 359) (tgt := 360) hx hb dMr_perform_1 (by rw [iI_toInt ⟨by omega, by omega⟩]; omega) (by rw [iI_toInt ⟨by omega, by omega⟩]; omega) (by rw [iI_toInt ⟨by omega, by omega⟩]; rw [hs1_360]; rfl) (by decide) ?_
    refine lv_aload_n hx hb dMr_perform_360 rfl (lv_at hl 0 rfl) ?_
    refine cvA_i (va_runV (C := "MacroReckoner") (As := []) (rest := []) ⟨hx, hb, hml, hown, hts⟩ (cMr_pushNumeral l dC dI dA dS b tr hg wk at_ en cm rg st0 en0 lg tR ngR scR lnR uR lu ru su qu pl rv si D CR FR LF RF SF QF P vs tp st E n0 (by exact hCH) (by exact hTS) (by exact htr) (by exact (hk48 (by omega)).1) (by exact (hk48 (by omega)).2) H.size) (cwV 0 hts (gdV wt3_1 wt3_3 ws1_11 wt1_1 wt3_4) rfl rfl rfl ⟨rfl, by decide, by decide, by decide +kernel⟩ ⟨by decide, by decide⟩) (preVA (q := ("MacroReckoner", TMr, 11)) hK hP hD hS hA (XC_ok dS) hX 0 rfl rfl) rfl rfl hl.1 rfl (lv_room (Nat.le_of_ble_eq_true rfl)) dMr_perform_361 ⟨Nat.zero_le _, Nat.zero_le _⟩) hD hS hA (fun r361 u_ H locs hq361 hP hD hS => ?_)
    obtain ⟨vs1_361, hg1_361, tR1_361, ngR1_361, scR1_361, lnR1_361, uR1_361, FR1_361, CR1_361, rv1_361⟩ := u_
    have hP : va_P (dC, dI) vwCl (wMr dA b tr hg1_361 wk at_ en cm rg st0 en0 lg tR1_361 ngR1_361 scR1_361 lnR1_361 uR1_361 lu ru su qu pl rv1_361 si D CR1_361 FR1_361 LF RF SF QF P (tl0 dA b vs1_361 tp)) H := hP
    have hD : va_D A (wMr dA b tr hg1_361 wk at_ en cm rg st0 en0 lg tR1_361 ngR1_361 scR1_361 lnR1_361 uR1_361 lu ru su qu pl rv1_361 si D CR1_361 FR1_361 LF RF SF QF P (tl0 dA b vs1_361 tp)) := hD
    have hq361 : r361 = (numA st E lg).1 ∧ CH si vs1_361 hg1_361 wk (numA st E lg).2 := hq361
    exact rt_i hx hb hr hlocks hK hS dMr_perform_364 (vs1_361, tr, tp, hg1_361, wk, si, P, pl, rv1_361, tR1_361, ngR1_361, scR1_361, lnR1_361, uR1_361, FR1_361, CR1_361, LF, lu, RF, ru, SF, su, QF, qu) hP hD (show r361 = (perfA st c0 (E 1 - 97) E lg).1 ∧ CH si vs1_361 hg1_361 wk (perfA st c0 (E 1 - 97) E lg).2 ∧ CX tp tr (perfA st c0 (E 1 - 97) E lg).2 ∧ MG P pl (perfA st c0 (E 1 - 97) E lg).2 from by rw [perf_p.1 (by omega)]; exact ⟨hq361.1, hq361.2, CX_kp hCX num_kp, MG_kp hMG num_kp⟩)
  by_cases hs1_496 : c0 = 60 ∨ c0 = 61 ∨ c0 = 62
  · refine lv_tableIn (off := 495) (tgt := 496) hx hb dMr_perform_1 (by rw [iI_toInt ⟨by omega, by omega⟩]; omega) (by rw [iI_toInt ⟨by omega, by omega⟩]; omega) (by rw [iI_toInt ⟨by omega, by omega⟩]; rcases hs1_496 with hk | hk | hk <;> (rw [hk]; rfl)) (by decide) ?_
    have hn2 : need c0 = 2 := need_c.2.2.1 (by omega)
    have hrg := hkp (by unfold prs; omega)
    refine lv_aload_n hx hb dMr_perform_496 rfl (lv_at hl 0 rfl) ?_
    refine lv_iload_n hx hb dMr_perform_497 rfl (lv_at hl 1 rfl) ?_
    refine lv_aload_n hx hb dMr_perform_498 rfl (lv_at hl 0 rfl) ?_
    refine va_get (D := (dC, dI)) (ci := 6) (v := .ref (b + 6)) (C := "MacroReckoner") (T := TMr) (N := 11) hx hb hts inMr hown hK hP 0 rfl rfl 6 (by decide) (hts _ wt1_179) (fun _ h9 => h9) rfl dMr_perform_499 ?_
    refine lv_aload_n hx hb dMr_perform_502 rfl (lv_at hl 0 rfl) ?_
    refine va_get (D := (dC, dI)) (ci := 6) (v := .ref (b + 4)) (C := "MacroReckoner") (T := TMr) (N := 11) hx hb hts inMr hown hK hP 0 rfl rfl 3 (by decide) (hts _ wt1_176) (fun _ h9 => h9) rfl dMr_perform_503 ?_
    refine va_getN (D := (dC, dI)) (ci := 3) (v := .int (iI rg)) (C := "MacroReckoner$Token") (T := TTo) (N := 6) hx hb hts inTo hown hK hP 4 rfl rfl 1 (by decide) (va_Nw.use rfl (hX.1 ("MacroReckoner", 190, "MacroReckoner$Token", "register", "I", "MacroReckoner") (List.mem_of_getElem? (i := 4) rfl))) (fun _ h9 => h9) rfl dMr_perform_506 ?_
    refine iv_aald hx hb hK hP 6 4 rfl rfl (by decide) dMr_perform_509 (by omega) (by omega) ?_
    refine W.eq (g2 := F0 m 510 ls [.ref (b + 38 + 4 * (20 + (rg).toNat)), .int (iI c0), .ref b]) rfl ?_
    refine cvA_i (va_runV (C := "MacroReckoner") (As := [.int (iI c0), .ref (b + 38 + 4 * (20 + (rg).toNat))]) (rest := []) ⟨hx, hb, hml, hown, hts⟩ (cMr_choose l dC dI dA dS b tr hg wk at_ en cm rg st0 en0 lg tR ngR scR lnR uR lu ru su qu pl rv si D CR FR LF RF SF QF P vs tp st c0 rg (by exact hCH) (by exact hCX) (by omega) (by omega) (by omega) H.size) (cwV 2 hts (gdV wt4_27 wt4_29 ws3_4 wt1_1 wt4_30) rfl rfl rfl ⟨rfl, by decide, by decide, by decide +kernel⟩ ⟨by decide, by decide⟩) (preVA (q := ("MacroReckoner", TMr, 11)) hK hP hD hS hA (XC_ok dS) hX 0 rfl rfl) rfl rfl hl.1 rfl (lv_room (Nat.le_of_ble_eq_true rfl)) dMr_perform_510 ⟨Nat.zero_le _, Nat.zero_le _⟩) hD hS hA (fun r510 u_ H locs hq510 hP hD hS => ?_)
    obtain ⟨hg1_510, tr1_510, tp1_510, LF1_510, lu1_510, RF1_510, ru1_510⟩ := u_
    have hP : va_P (dC, dI) vwCl (wMr dA b tr1_510 hg1_510 wk at_ en cm rg st0 en0 lg tR ngR scR lnR uR lu1_510 ru1_510 su qu pl rv si D CR FR LF1_510 RF1_510 SF QF P (tl0 dA b vs tp1_510)) H := hP
    have hD : va_D A (wMr dA b tr1_510 hg1_510 wk at_ en cm rg st0 en0 lg tR ngR scR lnR uR lu1_510 ru1_510 su qu pl rv si D CR FR LF1_510 RF1_510 SF QF P (tl0 dA b vs tp1_510)) := hD
    have hq510 : r510 = (choA st c0 rg).1 ∧ hg1_510 = (choA st c0 rg).2.h ∧ CX tp1_510 tr1_510 (choA st c0 rg).2 := hq510
    exact rt_i hx hb hr hlocks hK hS dMr_perform_513 (vs, tr1_510, tp1_510, hg1_510, wk, si, P, pl, rv, tR, ngR, scR, lnR, uR, FR, CR, LF1_510, lu1_510, RF1_510, ru1_510, SF, su, QF, qu) hP hD (show r510 = (perfA st c0 (E 1 - 97) E lg).1 ∧ CH si vs hg1_510 wk (perfA st c0 (E 1 - 97) E lg).2 ∧ CX tp1_510 tr1_510 (perfA st c0 (E 1 - 97) E lg).2 ∧ MG P pl (perfA st c0 (E 1 - 97) E lg).2 from by rw [perf_p.2.2.2.2 (by omega), ← hrg.1]; have h := cho_k (st := st) (c := c0) (rg := rg); rw [hq510.2.1]; exact ⟨hq510.1, CH_q hCH h.1 h.2.1 h.2.2.1 (by omega), hq510.2.2, MG_c hMG h.2.2.2.2.1 h.2.2.2.2.2⟩)
  by_cases hs1_416 : c0 = 75
  · refine lv_tableIn (off := 415) (tgt := 416) hx hb dMr_perform_1 (by rw [iI_toInt ⟨by omega, by omega⟩]; omega) (by rw [iI_toInt ⟨by omega, by omega⟩]; omega) (by rw [iI_toInt ⟨by omega, by omega⟩]; rw [hs1_416]; rfl) (by decide) ?_
    refine lv_aload_n hx hb dMr_perform_416 rfl (lv_at hl 0 rfl) ?_
    refine lv_aload_n hx hb dMr_perform_417 rfl (lv_at hl 0 rfl) ?_
    refine va_get (D := (dC, dI)) (ci := 6) (v := .int (iI wk)) (C := "MacroReckoner") (T := TMr) (N := 11) hx hb hts inMr hown hK hP 0 rfl rfl 7 (by decide) (hts _ wt1_180) (fun _ h9 => h9) rfl dMr_perform_418 ?_
    refine cvA_i (va_runV (C := "MacroReckoner") (As := [.int (iI wk)]) (rest := []) ⟨hx, hb, hml, hown, hts⟩ (cMr_pushCount l dC dI dA dS b tr hg wk at_ en cm rg st0 en0 lg tR ngR scR lnR uR lu ru su qu pl rv si D CR FR LF RF SF QF P vs tp st wk (by exact hCH) (by omega) H.size) (cwV 1 hts (gdV wt3_194 wt3_196 ws2_10 wt1_1 wt3_197) rfl rfl rfl ⟨rfl, by decide, by decide, by decide +kernel⟩ ⟨by decide, by decide⟩) (preVA (q := ("MacroReckoner", TMr, 11)) hK hP hD hS hA (XC_ok dS) hX 0 rfl rfl) rfl rfl hl.1 rfl (lv_room (Nat.le_of_ble_eq_true rfl)) dMr_perform_421 ⟨Nat.zero_le _, Nat.zero_le _⟩) hD hS hA (fun r421 u_ H locs hq421 hP hD hS => ?_)
    obtain ⟨vs1_421, hg1_421, FR1_421, uR1_421⟩ := u_
    have hP : va_P (dC, dI) vwCl (wMr dA b tr hg1_421 wk at_ en cm rg st0 en0 lg 0 0 0 0 uR1_421 lu ru su qu pl rv si D CR FR1_421 LF RF SF QF P (tl0 dA b vs1_421 tp)) H := hP
    have hD : va_D A (wMr dA b tr hg1_421 wk at_ en cm rg st0 en0 lg 0 0 0 0 uR1_421 lu ru su qu pl rv si D CR FR1_421 LF RF SF QF P (tl0 dA b vs1_421 tp)) := hD
    have hq421 : r421 = (pushA st (mkN wk 0)).1 ∧ CH si vs1_421 hg1_421 wk (pushA st (mkN wk 0)).2 := hq421
    exact rt_i hx hb hr hlocks hK hS dMr_perform_424 (vs1_421, tr, tp, hg1_421, wk, si, P, pl, rv, 0, 0, 0, 0, uR1_421, FR1_421, CR, LF, lu, RF, ru, SF, su, QF, qu) hP hD (show r421 = (perfA st c0 (E 1 - 97) E lg).1 ∧ CH si vs1_421 hg1_421 wk (perfA st c0 (E 1 - 97) E lg).2 ∧ CX tp tr (perfA st c0 (E 1 - 97) E lg).2 ∧ MG P pl (perfA st c0 (E 1 - 97) E lg).2 from by rw [perf_e.2.2.2.2.2.2.1 (by omega)]; have h1 := hq421.1; have h2 := hq421.2; rw [show pushA st (mkN wk 0) = pushA st (mkN st.k 0) by rw [hk9.1]] at h1 h2; exact ⟨h1, h2, CX_kp hCX push_kp, MG_kp hMG push_kp⟩)
  by_cases hs1_451 : c0 = 88
  · refine lv_tableIn (off := 450) (tgt := 451) hx hb dMr_perform_1 (by rw [iI_toInt ⟨by omega, by omega⟩]; omega) (by rw [iI_toInt ⟨by omega, by omega⟩]; omega) (by rw [iI_toInt ⟨by omega, by omega⟩]; rw [hs1_451]; rfl) (by decide) ?_
    have hn1 : need c0 = 1 := need_c.2.2.2 (by omega)
    refine lv_aload_n hx hb dMr_perform_451 rfl (lv_at hl 0 rfl) ?_
    refine lv_iconst (v := iI 0) hx hb dMr_perform_452 rfl ?_
    refine cvA_i (va_runV (C := "MacroReckoner") (As := [.int (iI 0)]) (rest := []) ⟨hx, hb, hml, hown, hts⟩ (cMr_measure l dC dI dA dS b tr hg wk at_ en cm rg st0 en0 lg tR ngR scR lnR uR lu ru su qu pl rv si D CR FR LF RF SF QF P vs tp st 0 (by exact hCH) (by omega) (by omega) H.size) (cwV 1 hts (gdV wt4_6 wt4_8 ws3_0 wt1_1 wt4_9) rfl rfl rfl ⟨rfl, by decide, by decide, by decide +kernel⟩ ⟨by decide, by decide⟩) (preVA (q := ("MacroReckoner", TMr, 11)) hK hP hD hS hA (XC_ok dS) hX 0 rfl rfl) rfl rfl hl.1 rfl (lv_room (Nat.le_of_ble_eq_true rfl)) dMr_perform_453 ⟨Nat.zero_le _, Nat.zero_le _⟩) hD hS hA (fun r453 u_ H locs hq453 hP hD hS => ?_)
    obtain ⟨vs1_453, rfl⟩ : ∃ z, z = u_ := ⟨_, rfl⟩
    have hP : va_P (dC, dI) vwCl (wMr dA b tr hg wk at_ en cm rg st0 en0 lg tR ngR scR lnR uR lu ru su qu pl rv si D CR FR LF RF SF QF P (tl0 dA b vs1_453 tp)) H := hP
    have hD : va_D A (wMr dA b tr hg wk at_ en cm rg st0 en0 lg tR ngR scR lnR uR lu ru su qu pl rv si D CR FR LF RF SF QF P (tl0 dA b vs1_453 tp)) := hD
    have hq453 : r453 = 0 ∧ (((0 : Int)) = 1 → CH si vs1_453 hg wk (lenA st).2) ∧ (((0 : Int)) = 0 → CH si vs1_453 hg wk (xscA st).2) := hq453
    exact rt_i hx hb hr hlocks hK hS dMr_perform_456 (vs1_453, tr, tp, hg, wk, si, P, pl, rv, tR, ngR, scR, lnR, uR, FR, CR, LF, lu, RF, ru, SF, su, QF, qu) hP hD (show r453 = (perfA st c0 (E 1 - 97) E lg).1 ∧ CH si vs1_453 hg wk (perfA st c0 (E 1 - 97) E lg).2 ∧ CX tp tr (perfA st c0 (E 1 - 97) E lg).2 ∧ MG P pl (perfA st c0 (E 1 - 97) E lg).2 from by rw [perf_e.2.2.2.2.2.2.2.2.2.2.1 (by omega)]; exact ⟨hq453.1, hq453.2.2 rfl, CX_c hCX rfl rfl rfl, MG_c hMG rfl rfl⟩)
  by_cases hs1_445 : c0 = 90
  · refine lv_tableIn (off := 444) (tgt := 445) hx hb dMr_perform_1 (by rw [iI_toInt ⟨by omega, by omega⟩]; omega) (by rw [iI_toInt ⟨by omega, by omega⟩]; omega) (by rw [iI_toInt ⟨by omega, by omega⟩]; rw [hs1_445]; rfl) (by decide) ?_
    have hn1 : need c0 = 1 := need_c.2.2.2 (by omega)
    refine lv_aload_n hx hb dMr_perform_445 rfl (lv_at hl 0 rfl) ?_
    refine lv_iconst (v := iI 1) hx hb dMr_perform_446 rfl ?_
    refine cvA_i (va_runV (C := "MacroReckoner") (As := [.int (iI 1)]) (rest := []) ⟨hx, hb, hml, hown, hts⟩ (cMr_measure l dC dI dA dS b tr hg wk at_ en cm rg st0 en0 lg tR ngR scR lnR uR lu ru su qu pl rv si D CR FR LF RF SF QF P vs tp st 1 (by exact hCH) (by omega) (by omega) H.size) (cwV 1 hts (gdV wt4_6 wt4_8 ws3_0 wt1_1 wt4_9) rfl rfl rfl ⟨rfl, by decide, by decide, by decide +kernel⟩ ⟨by decide, by decide⟩) (preVA (q := ("MacroReckoner", TMr, 11)) hK hP hD hS hA (XC_ok dS) hX 0 rfl rfl) rfl rfl hl.1 rfl (lv_room (Nat.le_of_ble_eq_true rfl)) dMr_perform_447 ⟨Nat.zero_le _, Nat.zero_le _⟩) hD hS hA (fun r447 u_ H locs hq447 hP hD hS => ?_)
    obtain ⟨vs1_447, rfl⟩ : ∃ z, z = u_ := ⟨_, rfl⟩
    have hP : va_P (dC, dI) vwCl (wMr dA b tr hg wk at_ en cm rg st0 en0 lg tR ngR scR lnR uR lu ru su qu pl rv si D CR FR LF RF SF QF P (tl0 dA b vs1_447 tp)) H := hP
    have hD : va_D A (wMr dA b tr hg wk at_ en cm rg st0 en0 lg tR ngR scR lnR uR lu ru su qu pl rv si D CR FR LF RF SF QF P (tl0 dA b vs1_447 tp)) := hD
    have hq447 : r447 = 0 ∧ (((1 : Int)) = 1 → CH si vs1_447 hg wk (lenA st).2) ∧ (((1 : Int)) = 0 → CH si vs1_447 hg wk (xscA st).2) := hq447
    exact rt_i hx hb hr hlocks hK hS dMr_perform_450 (vs1_447, tr, tp, hg, wk, si, P, pl, rv, tR, ngR, scR, lnR, uR, FR, CR, LF, lu, RF, ru, SF, su, QF, qu) hP hD (show r447 = (perfA st c0 (E 1 - 97) E lg).1 ∧ CH si vs1_447 hg wk (perfA st c0 (E 1 - 97) E lg).2 ∧ CX tp tr (perfA st c0 (E 1 - 97) E lg).2 ∧ MG P pl (perfA st c0 (E 1 - 97) E lg).2 from by rw [perf_e.2.2.2.2.2.2.2.2.2.1 (by omega)]; exact ⟨hq447.1, hq447.2.1 rfl, CX_c hCX rfl rfl rfl, MG_c hMG rfl rfl⟩)
  by_cases hs1_365 : c0 = 91
  · refine lv_tableIn (off := 364) (tgt := 365) hx hb dMr_perform_1 (by rw [iI_toInt ⟨by omega, by omega⟩]; omega) (by rw [iI_toInt ⟨by omega, by omega⟩]; omega) (by rw [iI_toInt ⟨by omega, by omega⟩]; rw [hs1_365]; rfl) (by decide) ?_
    refine lv_aload_n hx hb dMr_perform_365 rfl (lv_at hl 0 rfl) ?_
    refine cvA_i (va_runV (C := "MacroReckoner") (As := []) (rest := []) ⟨hx, hb, hml, hown, hts⟩ (cMr_pushText l dC dI dA dS b tr hg wk at_ en cm rg st0 en0 lg tR ngR scR lnR uR lu ru su qu pl rv si D CR FR LF RF SF QF P vs tp st E n0 (by exact hCH) (by exact hTS) (by exact htr) (by exact hk91 (by omega)) H.size) (cwV 0 hts (gdV wt3_50 wt3_52 ws1_13 wt1_1 wt3_53) rfl rfl rfl ⟨rfl, by decide, by decide, by decide +kernel⟩ ⟨by decide, by decide⟩) (preVA (q := ("MacroReckoner", TMr, 11)) hK hP hD hS hA (XC_ok dS) hX 0 rfl rfl) rfl rfl hl.1 rfl (lv_room (Nat.le_of_ble_eq_true rfl)) dMr_perform_366 ⟨Nat.zero_le _, Nat.zero_le _⟩) hD hS hA (fun r366 u_ H locs hq366 hP hD hS => ?_)
    obtain ⟨vs1_366, hg1_366, tR1_366, ngR1_366, scR1_366, lnR1_366, uR1_366, FR1_366, CR1_366, rv1_366⟩ := u_
    have hP : va_P (dC, dI) vwCl (wMr dA b tr hg1_366 wk at_ en cm rg st0 en0 lg tR1_366 ngR1_366 scR1_366 lnR1_366 uR1_366 lu ru su qu pl rv1_366 si D CR1_366 FR1_366 LF RF SF QF P (tl0 dA b vs1_366 tp)) H := hP
    have hD : va_D A (wMr dA b tr hg1_366 wk at_ en cm rg st0 en0 lg tR1_366 ngR1_366 scR1_366 lnR1_366 uR1_366 lu ru su qu pl rv1_366 si D CR1_366 FR1_366 LF RF SF QF P (tl0 dA b vs1_366 tp)) := hD
    have hq366 : r366 = (txtA st E lg).1 ∧ CH si vs1_366 hg1_366 wk (txtA st E lg).2 := hq366
    exact rt_i hx hb hr hlocks hK hS dMr_perform_369 (vs1_366, tr, tp, hg1_366, wk, si, P, pl, rv1_366, tR1_366, ngR1_366, scR1_366, lnR1_366, uR1_366, FR1_366, CR1_366, LF, lu, RF, ru, SF, su, QF, qu) hP hD (show r366 = (perfA st c0 (E 1 - 97) E lg).1 ∧ CH si vs1_366 hg1_366 wk (perfA st c0 (E 1 - 97) E lg).2 ∧ CX tp tr (perfA st c0 (E 1 - 97) E lg).2 ∧ MG P pl (perfA st c0 (E 1 - 97) E lg).2 from by rw [perf_p.2.1 (by omega)]; exact ⟨hq366.1, hq366.2, CX_kp hCX txt_kp, MG_kp hMG txt_kp⟩)
  by_cases hs1_402 : c0 = 99
  · refine lv_tableIn (off := 401) (tgt := 402) hx hb dMr_perform_1 (by rw [iI_toInt ⟨by omega, by omega⟩]; omega) (by rw [iI_toInt ⟨by omega, by omega⟩]; omega) (by rw [iI_toInt ⟨by omega, by omega⟩]; rw [hs1_402]; rfl) (by decide) ?_
    refine lv_aload_n hx hb dMr_perform_402 rfl (lv_at hl 0 rfl) ?_
    refine cvA_i (va_runV (C := "MacroReckoner") (As := []) (rest := []) ⟨hx, hb, hml, hown, hts⟩ (cMr_clearStack l dC dI dA dS b tr hg wk at_ en cm rg st0 en0 lg tR ngR scR lnR uR lu ru su qu pl rv si D CR FR LF RF SF QF P vs tp  H.size) (cwV 0 hts (gdV wt3_190 wt3_192 ws2_9 wt1_1 wt3_193) rfl rfl rfl ⟨rfl, by decide, by decide, by decide +kernel⟩ ⟨by decide, by decide⟩) (preVA (q := ("MacroReckoner", TMr, 11)) hK hP hD hS hA (XC_ok dS) hX 0 rfl rfl) rfl rfl hl.1 rfl (lv_room (Nat.le_of_ble_eq_true rfl)) dMr_perform_403 ⟨Nat.zero_le _, Nat.zero_le _⟩) hD hS hA (fun r403 u_ H locs hq403 hP hD hS => ?_)
    have hP : va_P (dC, dI) vwCl (wMr dA b tr 0 wk at_ en cm rg st0 en0 lg tR ngR scR lnR uR lu ru su qu pl rv si D CR FR LF RF SF QF P (tl0 dA b vs tp)) H := hP
    have hD : va_D A (wMr dA b tr 0 wk at_ en cm rg st0 en0 lg tR ngR scR lnR uR lu ru su qu pl rv si D CR FR LF RF SF QF P (tl0 dA b vs tp)) := hD
    have hq403 : r403 = 0 := hq403
    exact rt_i hx hb hr hlocks hK hS dMr_perform_406 (vs, tr, tp, 0, wk, si, P, pl, rv, tR, ngR, scR, lnR, uR, FR, CR, LF, lu, RF, ru, SF, su, QF, qu) hP hD (show r403 = (perfA st c0 (E 1 - 97) E lg).1 ∧ CH si vs 0 wk (perfA st c0 (E 1 - 97) E lg).2 ∧ CX tp tr (perfA st c0 (E 1 - 97) E lg).2 ∧ MG P pl (perfA st c0 (E 1 - 97) E lg).2 from by rw [perf_e.2.2.2.2.1 (by omega)]; exact ⟨hq403, CH_h hCH (by omega), CX_c hCX rfl rfl rfl, MG_c hMG rfl rfl⟩)
  by_cases hs1_381 : c0 = 100
  · refine lv_tableIn (off := 380) (tgt := 381) hx hb dMr_perform_1 (by rw [iI_toInt ⟨by omega, by omega⟩]; omega) (by rw [iI_toInt ⟨by omega, by omega⟩]; omega) (by rw [iI_toInt ⟨by omega, by omega⟩]; rw [hs1_381]; rfl) (by decide) ?_
    have hn1 : need c0 = 1 := need_c.2.2.2 (by omega)
    have hs9 := hCH.2.2.1 (hg - 1) (by omega) (by omega)
    refine lv_aload_n hx hb dMr_perform_381 rfl (lv_at hl 0 rfl) ?_
    refine lv_aload_n hx hb dMr_perform_382 rfl (lv_at hl 0 rfl) ?_
    refine va_get (D := (dC, dI)) (ci := 6) (v := .ref (b + 5)) (C := "MacroReckoner") (T := TMr) (N := 11) hx hb hts inMr hown hK hP 0 rfl rfl 4 (by decide) (hts _ wt1_177) (fun _ h9 => h9) rfl dMr_perform_383 ?_
    refine lv_aload_n hx hb dMr_perform_386 rfl (lv_at hl 0 rfl) ?_
    refine va_get (D := (dC, dI)) (ci := 6) (v := .int (iI hg)) (C := "MacroReckoner") (T := TMr) (N := 11) hx hb hts inMr hown hK hP 0 rfl rfl 5 (by decide) (hts _ wt1_178) (fun _ h9 => h9) rfl dMr_perform_387 ?_
    refine lv_iconst (v := iI 1) hx hb dMr_perform_390 rfl ?_
    refine iv_isub hx hb dMr_perform_391 ?_
    refine iv_aald hx hb hK hP 5 4 rfl rfl (by decide) dMr_perform_392 (by omega) (by omega) ?_
    refine W.eq (g2 := F0 m 393 ls [.ref (b + 38 + 4 * si (hg - 1)), .ref b]) rfl ?_
    refine cvA_i (va_runV (C := "MacroReckoner") (As := [.ref (b + 38 + 4 * si (hg - 1))]) (rest := []) ⟨hx, hb, hml, hown, hts⟩ (cMr_push_P l dC dI dA dS b tr hg wk at_ en cm rg st0 en0 lg tR ngR scR lnR uR lu ru su qu pl rv si D CR FR LF RF SF QF P vs tp st ((st.stk (st.h - 1))) (si (hg - 1)) (by exact hCH) (by exact ⟨by omega, fun i x y z => by have h := hCH.2.2.2.1 i (hg - 1) (by omega) y (by omega) (by omega) z; omega⟩) (by have h := hCH.2.2.2.2.2 (hg - 1) (by omega) (by omega); rw [hh.1] at h ⊢; exact h) H.size) (cwV 1 hts (gdV wt3_36 wt3_38 ws1_12 wt1_1 wt3_39) rfl rfl rfl ⟨rfl, by decide, by decide, by decide +kernel⟩ ⟨by decide, by decide⟩) (preVA (q := ("MacroReckoner", TMr, 11)) hK hP hD hS hA (XC_ok dS) hX 0 rfl rfl) rfl rfl hl.1 rfl (lv_room (Nat.le_of_ble_eq_true rfl)) dMr_perform_393 ⟨Nat.zero_le _, Nat.zero_le _⟩) hD hS hA (fun r393 u_ H locs hq393 hP hD hS => ?_)
    obtain ⟨vs1_393, hg1_393⟩ := u_
    have hP : va_P (dC, dI) vwCl (wMr dA b tr hg1_393 wk at_ en cm rg st0 en0 lg tR ngR scR lnR uR lu ru su qu pl rv si D CR FR LF RF SF QF P (tl0 dA b vs1_393 tp)) H := hP
    have hD : va_D A (wMr dA b tr hg1_393 wk at_ en cm rg st0 en0 lg tR ngR scR lnR uR lu ru su qu pl rv si D CR FR LF RF SF QF P (tl0 dA b vs1_393 tp)) := hD
    have hq393 : r393 = (pushA st ((st.stk (st.h - 1)))).1 ∧ CH si vs1_393 hg1_393 wk (pushA st ((st.stk (st.h - 1)))).2 := hq393
    exact rt_i hx hb hr hlocks hK hS dMr_perform_396 (vs1_393, tr, tp, hg1_393, wk, si, P, pl, rv, tR, ngR, scR, lnR, uR, FR, CR, LF, lu, RF, ru, SF, su, QF, qu) hP hD (show r393 = (perfA st c0 (E 1 - 97) E lg).1 ∧ CH si vs1_393 hg1_393 wk (perfA st c0 (E 1 - 97) E lg).2 ∧ CX tp tr (perfA st c0 (E 1 - 97) E lg).2 ∧ MG P pl (perfA st c0 (E 1 - 97) E lg).2 from by rw [perf_e.2.2.1 (by omega)]; exact ⟨hq393.1, hq393.2, CX_kp hCX push_kp, MG_kp hMG push_kp⟩)
  by_cases hs1_440 : c0 = 102
  · refine lv_tableIn (off := 439) (tgt := 440) hx hb dMr_perform_1 (by rw [iI_toInt ⟨by omega, by omega⟩]; omega) (by rw [iI_toInt ⟨by omega, by omega⟩]; omega) (by rw [iI_toInt ⟨by omega, by omega⟩]; rw [hs1_440]; rfl) (by decide) ?_
    refine lv_aload_n hx hb dMr_perform_440 rfl (lv_at hl 0 rfl) ?_
    refine cvA_i (va_runV (C := "MacroReckoner") (As := []) (rest := []) ⟨hx, hb, hml, hown, hts⟩ (cMr_printAll l dC dI dA dS b tr hg wk at_ en cm rg st0 en0 lg tR ngR scR lnR uR lu ru su qu pl rv si D CR FR LF RF SF QF P vs tp st (by exact hCH) (by exact hMG) H.size) (cwV 0 hts (gdV wt4_2 wt4_4 ws2_15 wt1_1 wt4_5) rfl rfl rfl ⟨rfl, by decide, by decide, by decide +kernel⟩ ⟨by decide, by decide⟩) (preVA (q := ("MacroReckoner", TMr, 11)) hK hP hD hS hA (XC_ok dS) hX 0 rfl rfl) rfl rfl hl.1 rfl (lv_room (Nat.le_of_ble_eq_true rfl)) dMr_perform_441 ⟨Nat.zero_le _, Nat.zero_le _⟩) hD hS hA (fun r441 u_ H locs hq441 hP hD hS => ?_)
    obtain ⟨P1_441, pl1_441⟩ := u_
    have hP : va_P (dC, dI) vwCl (wMr dA b tr hg wk at_ en cm rg st0 en0 lg tR ngR scR lnR uR lu ru su qu pl1_441 rv si D CR FR LF RF SF QF P1_441 (tl0 dA b vs tp)) H := hP
    have hD : va_D A (wMr dA b tr hg wk at_ en cm rg st0 en0 lg tR ngR scR lnR uR lu ru su qu pl1_441 rv si D CR FR LF RF SF QF P1_441 (tl0 dA b vs tp)) := hD
    have hq441 : r441 = (pfA st).1 ∧ MG P1_441 pl1_441 (pfA st).2 := hq441
    exact rt_i hx hb hr hlocks hK hS dMr_perform_444 (vs, tr, tp, hg, wk, si, P1_441, pl1_441, rv, tR, ngR, scR, lnR, uR, FR, CR, LF, lu, RF, ru, SF, su, QF, qu) hP hD (show r441 = (perfA st c0 (E 1 - 97) E lg).1 ∧ CH si vs hg wk (perfA st c0 (E 1 - 97) E lg).2 ∧ CX tp tr (perfA st c0 (E 1 - 97) E lg).2 ∧ MG P1_441 pl1_441 (perfA st c0 (E 1 - 97) E lg).2 from by have hc : c0 = 102 := (by omega); rw [perf_e.2.2.2.2.2.2.2.2.1 (Or.inr (Or.inr hc)), hc]; have h := CH_pr (c := 102) hCH (by decide) (fun z => by omega); have k := prtA_k (st := st) (c := 102) (by decide); rw [prt_3.2.2] at h k ⊢; refine ⟨hq441.1, ?_, CX_c hCX k.2.2.2.2.1 k.2.2.2.2.2.1 k.2.2.2.2.2.2.1, hq441.2⟩; rw [show hg = (pfA st).2.h by rcases k.2.2.2.1 with z | ⟨-, z⟩; omega; omega]; exact h)
  by_cases hs1_425 : c0 = 107
  · refine lv_tableIn (off := 424) (tgt := 425) hx hb dMr_perform_1 (by rw [iI_toInt ⟨by omega, by omega⟩]; omega) (by rw [iI_toInt ⟨by omega, by omega⟩]; omega) (by rw [iI_toInt ⟨by omega, by omega⟩]; rw [hs1_425]; rfl) (by decide) ?_
    have hn1 : need c0 = 1 := need_c.2.2.2 (by omega)
    refine lv_aload_n hx hb dMr_perform_425 rfl (lv_at hl 0 rfl) ?_
    refine cvA_i (va_runV (C := "MacroReckoner") (As := []) (rest := []) ⟨hx, hb, hml, hown, hts⟩ (cMr_takeScale l dC dI dA dS b tr hg wk at_ en cm rg st0 en0 lg tR ngR scR lnR uR lu ru su qu pl rv si D CR FR LF RF SF QF P vs tp st (by exact hCH) (by omega) (by exact hnt (by omega)) H.size) (cwV 0 hts (gdV wt3_199 wt3_201 ws2_11 wt1_1 wt3_202) rfl rfl rfl ⟨rfl, by decide, by decide, by decide +kernel⟩ ⟨by decide, by decide⟩) (preVA (q := ("MacroReckoner", TMr, 11)) hK hP hD hS hA (XC_ok dS) hX 0 rfl rfl) rfl rfl hl.1 rfl (lv_room (Nat.le_of_ble_eq_true rfl)) dMr_perform_426 ⟨Nat.zero_le _, Nat.zero_le _⟩) hD hS hA (fun r426 u_ H locs hq426 hP hD hS => ?_)
    obtain ⟨hg1_426, wk1_426⟩ := u_
    have hP : va_P (dC, dI) vwCl (wMr dA b tr hg1_426 wk1_426 at_ en cm rg st0 en0 lg tR ngR scR lnR uR lu ru su qu pl rv si D CR FR LF RF SF QF P (tl0 dA b vs tp)) H := hP
    have hD : va_D A (wMr dA b tr hg1_426 wk1_426 at_ en cm rg st0 en0 lg tR ngR scR lnR uR lu ru su qu pl rv si D CR FR LF RF SF QF P (tl0 dA b vs tp)) := hD
    have hq426 : r426 = (scaleA st).1 ∧ CH si vs hg1_426 wk1_426 (scaleA st).2 := hq426
    exact rt_i hx hb hr hlocks hK hS dMr_perform_429 (vs, tr, tp, hg1_426, wk1_426, si, P, pl, rv, tR, ngR, scR, lnR, uR, FR, CR, LF, lu, RF, ru, SF, su, QF, qu) hP hD (show r426 = (perfA st c0 (E 1 - 97) E lg).1 ∧ CH si vs hg1_426 wk1_426 (perfA st c0 (E 1 - 97) E lg).2 ∧ CX tp tr (perfA st c0 (E 1 - 97) E lg).2 ∧ MG P pl (perfA st c0 (E 1 - 97) E lg).2 from by rw [perf_e.2.2.2.2.2.2.2.1 (by omega)]; exact ⟨hq426.1, hq426.2, CX_kp hCX sca_kp, MG_kp hMG sca_kp⟩)
  by_cases hs1_474 : c0 = 108
  · refine lv_tableIn (off := 473) (tgt := 474) hx hb dMr_perform_1 (by rw [iI_toInt ⟨by omega, by omega⟩]; omega) (by rw [iI_toInt ⟨by omega, by omega⟩]; omega) (by rw [iI_toInt ⟨by omega, by omega⟩]; rw [hs1_474]; rfl) (by decide) ?_
    have hrg := hkp (by unfold prs; omega)
    refine lv_aload_n hx hb dMr_perform_474 rfl (lv_at hl 0 rfl) ?_
    refine lv_aload_n hx hb dMr_perform_475 rfl (lv_at hl 0 rfl) ?_
    refine va_get (D := (dC, dI)) (ci := 6) (v := .ref (b + 6)) (C := "MacroReckoner") (T := TMr) (N := 11) hx hb hts inMr hown hK hP 0 rfl rfl 6 (by decide) (hts _ wt1_179) (fun _ h9 => h9) rfl dMr_perform_476 ?_
    refine lv_aload_n hx hb dMr_perform_479 rfl (lv_at hl 0 rfl) ?_
    refine va_get (D := (dC, dI)) (ci := 6) (v := .ref (b + 4)) (C := "MacroReckoner") (T := TMr) (N := 11) hx hb hts inMr hown hK hP 0 rfl rfl 3 (by decide) (hts _ wt1_176) (fun _ h9 => h9) rfl dMr_perform_480 ?_
    refine va_getN (D := (dC, dI)) (ci := 3) (v := .int (iI rg)) (C := "MacroReckoner$Token") (T := TTo) (N := 6) hx hb hts inTo hown hK hP 4 rfl rfl 1 (by decide) (va_Nw.use rfl (hX.1 ("MacroReckoner", 190, "MacroReckoner$Token", "register", "I", "MacroReckoner") (List.mem_of_getElem? (i := 4) rfl))) (fun _ h9 => h9) rfl dMr_perform_483 ?_
    refine iv_aald hx hb hK hP 6 4 rfl rfl (by decide) dMr_perform_486 (by omega) (by omega) ?_
    refine W.eq (g2 := F0 m 487 ls [.ref (b + 38 + 4 * (20 + (rg).toNat)), .ref b]) rfl ?_
    refine cvA_i (va_runV (C := "MacroReckoner") (As := [.ref (b + 38 + 4 * (20 + (rg).toNat))]) (rest := []) ⟨hx, hb, hml, hown, hts⟩ (cMr_push_P l dC dI dA dS b tr hg wk at_ en cm rg st0 en0 lg tR ngR scR lnR uR lu ru su qu pl rv si D CR FR LF RF SF QF P vs tp st ((st.reg rg)) (20 + (rg).toNat) (by exact hCH) (by exact ⟨by omega, fun i x y z => by have h := hCH.2.2.1 i (by omega) y; omega⟩) (by exact hCH.2.2.2.2.1 rg (by omega) (by omega)) H.size) (cwV 1 hts (gdV wt3_36 wt3_38 ws1_12 wt1_1 wt3_39) rfl rfl rfl ⟨rfl, by decide, by decide, by decide +kernel⟩ ⟨by decide, by decide⟩) (preVA (q := ("MacroReckoner", TMr, 11)) hK hP hD hS hA (XC_ok dS) hX 0 rfl rfl) rfl rfl hl.1 rfl (lv_room (Nat.le_of_ble_eq_true rfl)) dMr_perform_487 ⟨Nat.zero_le _, Nat.zero_le _⟩) hD hS hA (fun r487 u_ H locs hq487 hP hD hS => ?_)
    obtain ⟨vs1_487, hg1_487⟩ := u_
    have hP : va_P (dC, dI) vwCl (wMr dA b tr hg1_487 wk at_ en cm rg st0 en0 lg tR ngR scR lnR uR lu ru su qu pl rv si D CR FR LF RF SF QF P (tl0 dA b vs1_487 tp)) H := hP
    have hD : va_D A (wMr dA b tr hg1_487 wk at_ en cm rg st0 en0 lg tR ngR scR lnR uR lu ru su qu pl rv si D CR FR LF RF SF QF P (tl0 dA b vs1_487 tp)) := hD
    have hq487 : r487 = (pushA st ((st.reg rg))).1 ∧ CH si vs1_487 hg1_487 wk (pushA st ((st.reg rg))).2 := hq487
    exact rt_i hx hb hr hlocks hK hS dMr_perform_490 (vs1_487, tr, tp, hg1_487, wk, si, P, pl, rv, tR, ngR, scR, lnR, uR, FR, CR, LF, lu, RF, ru, SF, su, QF, qu) hP hD (show r487 = (perfA st c0 (E 1 - 97) E lg).1 ∧ CH si vs1_487 hg1_487 wk (perfA st c0 (E 1 - 97) E lg).2 ∧ CX tp tr (perfA st c0 (E 1 - 97) E lg).2 ∧ MG P pl (perfA st c0 (E 1 - 97) E lg).2 from by rw [perf_p.2.2.2.1 (by omega), ← hrg.1]; exact ⟨hq487.1, hq487.2, CX_kp hCX push_kp, MG_kp hMG push_kp⟩)
  by_cases hs1_435 : c0 = 110
  · refine lv_tableIn (off := 434) (tgt := 435) hx hb dMr_perform_1 (by rw [iI_toInt ⟨by omega, by omega⟩]; omega) (by rw [iI_toInt ⟨by omega, by omega⟩]; omega) (by rw [iI_toInt ⟨by omega, by omega⟩]; rw [hs1_435]; rfl) (by decide) ?_
    have hn1 : need c0 = 1 := need_c.2.2.2 (by omega)
    refine lv_aload_n hx hb dMr_perform_435 rfl (lv_at hl 0 rfl) ?_
    refine cvA_i (va_runV (C := "MacroReckoner") (As := []) (rest := []) ⟨hx, hb, hml, hown, hts⟩ (cMr_printAndTake l dC dI dA dS b tr hg wk at_ en cm rg st0 en0 lg tR ngR scR lnR uR lu ru su qu pl rv si D CR FR LF RF SF QF P vs tp st (by exact hCH) (by omega) (by exact hMG) H.size) (cwV 0 hts (gdV wt3_238 wt4_0 ws2_14 wt1_1 wt4_1) rfl rfl rfl ⟨rfl, by decide, by decide, by decide +kernel⟩ ⟨by decide, by decide⟩) (preVA (q := ("MacroReckoner", TMr, 11)) hK hP hD hS hA (XC_ok dS) hX 0 rfl rfl) rfl rfl hl.1 rfl (lv_room (Nat.le_of_ble_eq_true rfl)) dMr_perform_436 ⟨Nat.zero_le _, Nat.zero_le _⟩) hD hS hA (fun r436 u_ H locs hq436 hP hD hS => ?_)
    obtain ⟨P1_436, pl1_436, hg1_436⟩ := u_
    have hP : va_P (dC, dI) vwCl (wMr dA b tr hg1_436 wk at_ en cm rg st0 en0 lg tR ngR scR lnR uR lu ru su qu pl1_436 rv si D CR FR LF RF SF QF P1_436 (tl0 dA b vs tp)) H := hP
    have hD : va_D A (wMr dA b tr hg1_436 wk at_ en cm rg st0 en0 lg tR ngR scR lnR uR lu ru su qu pl1_436 rv si D CR FR LF RF SF QF P1_436 (tl0 dA b vs tp)) := hD
    have hq436 : r436 = (pnA st).1 ∧ hg1_436 = (pnA st).2.h ∧ MG P1_436 pl1_436 (pnA st).2 := hq436
    exact rt_i hx hb hr hlocks hK hS dMr_perform_439 (vs, tr, tp, hg1_436, wk, si, P1_436, pl1_436, rv, tR, ngR, scR, lnR, uR, FR, CR, LF, lu, RF, ru, SF, su, QF, qu) hP hD (show r436 = (perfA st c0 (E 1 - 97) E lg).1 ∧ CH si vs hg1_436 wk (perfA st c0 (E 1 - 97) E lg).2 ∧ CX tp tr (perfA st c0 (E 1 - 97) E lg).2 ∧ MG P1_436 pl1_436 (perfA st c0 (E 1 - 97) E lg).2 from by have hc : c0 = 110 := (by omega); rw [perf_e.2.2.2.2.2.2.2.2.1 (Or.inr (Or.inl hc)), hc]; have h := CH_pr (c := 110) hCH (by decide) (fun z => by omega); have k := prtA_k (st := st) (c := 110) (by decide); rw [prt_3.2.1] at h k ⊢; rw [hq436.2.1]; exact ⟨hq436.1, h, CX_c hCX k.2.2.2.2.1 k.2.2.2.2.2.1 k.2.2.2.2.2.2.1, hq436.2.2⟩)
  by_cases hs1_430 : c0 = 112
  · refine lv_tableIn (off := 429) (tgt := 430) hx hb dMr_perform_1 (by rw [iI_toInt ⟨by omega, by omega⟩]; omega) (by rw [iI_toInt ⟨by omega, by omega⟩]; omega) (by rw [iI_toInt ⟨by omega, by omega⟩]; rw [hs1_430]; rfl) (by decide) ?_
    have hn1 : need c0 = 1 := need_c.2.2.2 (by omega)
    refine lv_aload_n hx hb dMr_perform_430 rfl (lv_at hl 0 rfl) ?_
    refine cvA_i (va_runV (C := "MacroReckoner") (As := []) (rest := []) ⟨hx, hb, hml, hown, hts⟩ (cMr_printTop l dC dI dA dS b tr hg wk at_ en cm rg st0 en0 lg tR ngR scR lnR uR lu ru su qu pl rv si D CR FR LF RF SF QF P vs tp st (by exact hCH) (by omega) (by exact hMG) H.size) (cwV 0 hts (gdV wt3_205 wt3_207 ws2_12 wt1_1 wt3_208) rfl rfl rfl ⟨rfl, by decide, by decide, by decide +kernel⟩ ⟨by decide, by decide⟩) (preVA (q := ("MacroReckoner", TMr, 11)) hK hP hD hS hA (XC_ok dS) hX 0 rfl rfl) rfl rfl hl.1 rfl (lv_room (Nat.le_of_ble_eq_true rfl)) dMr_perform_431 ⟨Nat.zero_le _, Nat.zero_le _⟩) hD hS hA (fun r431 u_ H locs hq431 hP hD hS => ?_)
    obtain ⟨P1_431, pl1_431⟩ := u_
    have hP : va_P (dC, dI) vwCl (wMr dA b tr hg wk at_ en cm rg st0 en0 lg tR ngR scR lnR uR lu ru su qu pl1_431 rv si D CR FR LF RF SF QF P1_431 (tl0 dA b vs tp)) H := hP
    have hD : va_D A (wMr dA b tr hg wk at_ en cm rg st0 en0 lg tR ngR scR lnR uR lu ru su qu pl1_431 rv si D CR FR LF RF SF QF P1_431 (tl0 dA b vs tp)) := hD
    have hq431 : r431 = (p1A st).1 ∧ MG P1_431 pl1_431 (p1A st).2 := hq431
    exact rt_i hx hb hr hlocks hK hS dMr_perform_434 (vs, tr, tp, hg, wk, si, P1_431, pl1_431, rv, tR, ngR, scR, lnR, uR, FR, CR, LF, lu, RF, ru, SF, su, QF, qu) hP hD (show r431 = (perfA st c0 (E 1 - 97) E lg).1 ∧ CH si vs hg wk (perfA st c0 (E 1 - 97) E lg).2 ∧ CX tp tr (perfA st c0 (E 1 - 97) E lg).2 ∧ MG P1_431 pl1_431 (perfA st c0 (E 1 - 97) E lg).2 from by have hc : c0 = 112 := (by omega); rw [perf_e.2.2.2.2.2.2.2.2.1 (Or.inl hc), hc]; have h := CH_pr (c := 112) hCH (by decide) (fun z => by omega); have k := prtA_k (st := st) (c := 112) (by decide); rw [prt_3.1] at h k ⊢; refine ⟨hq431.1, ?_, CX_c hCX k.2.2.2.2.1 k.2.2.2.2.2.1 k.2.2.2.2.2.2.1, hq431.2⟩; rw [show hg = (p1A st).2.h by rcases k.2.2.2.1 with z | ⟨-, z⟩; omega; omega]; exact h)
  by_cases hs1_514 : c0 = 113
  · refine lv_tableIn (off := 513) (tgt := 514) hx hb dMr_perform_1 (by rw [iI_toInt ⟨by omega, by omega⟩]; omega) (by rw [iI_toInt ⟨by omega, by omega⟩]; omega) (by rw [iI_toInt ⟨by omega, by omega⟩]; rw [hs1_514]; rfl) (by decide) ?_
    refine lv_aload_n hx hb dMr_perform_514 rfl (lv_at hl 0 rfl) ?_
    refine cvA_i (va_runV (C := "MacroReckoner") (As := []) (rest := []) ⟨hx, hb, hml, hown, hts⟩ (cMr_endTexts l dC dI dA dS b tr hg wk at_ en cm rg st0 en0 lg tR ngR scR lnR uR lu ru su qu pl rv si D CR FR LF RF SF QF P vs tp  H.size) (cwV 0 hts (gdV wt4_35 wt4_37 ws3_5 wt1_1 wt4_38) rfl rfl rfl ⟨rfl, by decide, by decide, by decide +kernel⟩ ⟨by decide, by decide⟩) (preVA (q := ("MacroReckoner", TMr, 11)) hK hP hD hS hA (XC_ok dS) hX 0 rfl rfl) rfl rfl hl.1 rfl (lv_room (Nat.le_of_ble_eq_true rfl)) dMr_perform_515 ⟨Nat.zero_le _, Nat.zero_le _⟩) hD hS hA (fun r515 u_ H locs hq515 hP hD hS => ?_)
    have hP : va_P (dC, dI) vwCl (wMr dA b 0 hg wk at_ en cm rg st0 en0 lg tR ngR scR lnR uR lu ru su qu pl rv si D CR FR LF RF SF QF P (tl0 dA b vs tp)) H := hP
    have hD : va_D A (wMr dA b 0 hg wk at_ en cm rg st0 en0 lg tR ngR scR lnR uR lu ru su qu pl rv si D CR FR LF RF SF QF P (tl0 dA b vs tp)) := hD
    have hq515 : r515 = 0 := hq515
    exact rt_i hx hb hr hlocks hK hS dMr_perform_518 (vs, 0, tp, hg, wk, si, P, pl, rv, tR, ngR, scR, lnR, uR, FR, CR, LF, lu, RF, ru, SF, su, QF, qu) hP hD (show r515 = (perfA st c0 (E 1 - 97) E lg).1 ∧ CH si vs hg wk (perfA st c0 (E 1 - 97) E lg).2 ∧ CX tp 0 (perfA st c0 (E 1 - 97) E lg).2 ∧ MG P pl (perfA st c0 (E 1 - 97) E lg).2 from by rw [perf_e.2.2.2.2.2.2.2.2.2.2.2.2 (by omega)]; exact ⟨hq515, CH_c hCH rfl rfl rfl rfl, CX_0 rfl, MG_c hMG rfl rfl⟩)
  by_cases hs1_397 : c0 = 114
  · refine lv_tableIn (off := 396) (tgt := 397) hx hb dMr_perform_1 (by rw [iI_toInt ⟨by omega, by omega⟩]; omega) (by rw [iI_toInt ⟨by omega, by omega⟩]; omega) (by rw [iI_toInt ⟨by omega, by omega⟩]; rw [hs1_397]; rfl) (by decide) ?_
    have hn2 : need c0 = 2 := need_c.2.1 (by omega)
    refine lv_aload_n hx hb dMr_perform_397 rfl (lv_at hl 0 rfl) ?_
    refine cvA_i (va_runV (C := "MacroReckoner") (As := []) (rest := []) ⟨hx, hb, hml, hown, hts⟩ (cMr_swap l dC dI dA dS b tr hg wk at_ en cm rg st0 en0 lg tR ngR scR lnR uR lu ru su qu pl rv si D CR FR LF RF SF QF P vs tp st (by exact hCH) (by omega) H.size) (cwV 0 hts (gdV wt3_186 wt3_188 ws2_8 wt1_1 wt3_189) rfl rfl rfl ⟨rfl, by decide, by decide, by decide +kernel⟩ ⟨by decide, by decide⟩) (preVA (q := ("MacroReckoner", TMr, 11)) hK hP hD hS hA (XC_ok dS) hX 0 rfl rfl) rfl rfl hl.1 rfl (lv_room (Nat.le_of_ble_eq_true rfl)) dMr_perform_398 ⟨Nat.zero_le _, Nat.zero_le _⟩) hD hS hA (fun r398 u_ H locs hq398 hP hD hS => ?_)
    obtain ⟨si1_398, rfl⟩ : ∃ z, z = u_ := ⟨_, rfl⟩
    have hP : va_P (dC, dI) vwCl (wMr dA b tr hg wk at_ en cm rg st0 en0 lg tR ngR scR lnR uR lu ru su qu pl rv si1_398 D CR FR LF RF SF QF P (tl0 dA b vs tp)) H := hP
    have hD : va_D A (wMr dA b tr hg wk at_ en cm rg st0 en0 lg tR ngR scR lnR uR lu ru su qu pl rv si1_398 D CR FR LF RF SF QF P (tl0 dA b vs tp)) := hD
    have hq398 : r398 = 0 ∧ CH si1_398 vs hg wk (swapA st).2 := hq398
    exact rt_i hx hb hr hlocks hK hS dMr_perform_401 (vs, tr, tp, hg, wk, si1_398, P, pl, rv, tR, ngR, scR, lnR, uR, FR, CR, LF, lu, RF, ru, SF, su, QF, qu) hP hD (show r398 = (perfA st c0 (E 1 - 97) E lg).1 ∧ CH si1_398 vs hg wk (perfA st c0 (E 1 - 97) E lg).2 ∧ CX tp tr (perfA st c0 (E 1 - 97) E lg).2 ∧ MG P pl (perfA st c0 (E 1 - 97) E lg).2 from by rw [perf_e.2.2.2.1 (by omega)]; exact ⟨hq398.1, hq398.2, CX_c hCX rfl rfl rfl, MG_c hMG rfl rfl⟩)
  by_cases hs1_457 : c0 = 115
  · refine lv_tableIn (off := 456) (tgt := 457) hx hb dMr_perform_1 (by rw [iI_toInt ⟨by omega, by omega⟩]; omega) (by rw [iI_toInt ⟨by omega, by omega⟩]; omega) (by rw [iI_toInt ⟨by omega, by omega⟩]; rw [hs1_457]; rfl) (by decide) ?_
    have hn1 : need c0 = 1 := need_c.2.2.2 (by omega)
    have hrg := hkp (by unfold prs; omega)
    refine lv_aload_n hx hb dMr_perform_457 rfl (lv_at hl 0 rfl) ?_
    refine lv_aload_n hx hb dMr_perform_458 rfl (lv_at hl 0 rfl) ?_
    refine va_get (D := (dC, dI)) (ci := 6) (v := .ref (b + 6)) (C := "MacroReckoner") (T := TMr) (N := 11) hx hb hts inMr hown hK hP 0 rfl rfl 6 (by decide) (hts _ wt1_179) (fun _ h9 => h9) rfl dMr_perform_459 ?_
    refine lv_aload_n hx hb dMr_perform_462 rfl (lv_at hl 0 rfl) ?_
    refine va_get (D := (dC, dI)) (ci := 6) (v := .ref (b + 4)) (C := "MacroReckoner") (T := TMr) (N := 11) hx hb hts inMr hown hK hP 0 rfl rfl 3 (by decide) (hts _ wt1_176) (fun _ h9 => h9) rfl dMr_perform_463 ?_
    refine va_getN (D := (dC, dI)) (ci := 3) (v := .int (iI rg)) (C := "MacroReckoner$Token") (T := TTo) (N := 6) hx hb hts inTo hown hK hP 4 rfl rfl 1 (by decide) (va_Nw.use rfl (hX.1 ("MacroReckoner", 190, "MacroReckoner$Token", "register", "I", "MacroReckoner") (List.mem_of_getElem? (i := 4) rfl))) (fun _ h9 => h9) rfl dMr_perform_466 ?_
    refine iv_aald hx hb hK hP 6 4 rfl rfl (by decide) dMr_perform_469 (by omega) (by omega) ?_
    refine W.eq (g2 := F0 m 470 ls [.ref (b + 38 + 4 * (20 + (rg).toNat)), .ref b]) rfl ?_
    refine cvA_i (va_runV (C := "MacroReckoner") (As := [.ref (b + 38 + 4 * (20 + (rg).toNat))]) (rest := []) ⟨hx, hb, hml, hown, hts⟩ (cMr_store l dC dI dA dS b tr hg wk at_ en cm rg st0 en0 lg tR ngR scR lnR uR lu ru su qu pl rv si D CR FR LF RF SF QF P vs tp st rg (by exact hCH) (by omega) (by omega) H.size) (cwV 1 hts (gdV wt4_10 wt4_12 ws3_1 wt1_1 wt4_13) rfl rfl rfl ⟨rfl, by decide, by decide, by decide +kernel⟩ ⟨by decide, by decide⟩) (preVA (q := ("MacroReckoner", TMr, 11)) hK hP hD hS hA (XC_ok dS) hX 0 rfl rfl) rfl rfl hl.1 rfl (lv_room (Nat.le_of_ble_eq_true rfl)) dMr_perform_470 ⟨Nat.zero_le _, Nat.zero_le _⟩) hD hS hA (fun r470 u_ H locs hq470 hP hD hS => ?_)
    obtain ⟨vs1_470, rfl⟩ : ∃ z, z = u_ := ⟨_, rfl⟩
    have hP : va_P (dC, dI) vwCl (wMr dA b tr (hg - 1) wk at_ en cm rg st0 en0 lg tR ngR scR lnR uR lu ru su qu pl rv si D CR FR LF RF SF QF P (tl0 dA b vs1_470 tp)) H := hP
    have hD : va_D A (wMr dA b tr (hg - 1) wk at_ en cm rg st0 en0 lg tR ngR scR lnR uR lu ru su qu pl rv si D CR FR LF RF SF QF P (tl0 dA b vs1_470 tp)) := hD
    have hq470 : r470 = 0 ∧ CH si vs1_470 (hg - 1) wk (stoA st rg).2 := hq470
    exact rt_i hx hb hr hlocks hK hS dMr_perform_473 (vs1_470, tr, tp, hg - 1, wk, si, P, pl, rv, tR, ngR, scR, lnR, uR, FR, CR, LF, lu, RF, ru, SF, su, QF, qu) hP hD (show r470 = (perfA st c0 (E 1 - 97) E lg).1 ∧ CH si vs1_470 (hg - 1) wk (perfA st c0 (E 1 - 97) E lg).2 ∧ CX tp tr (perfA st c0 (E 1 - 97) E lg).2 ∧ MG P pl (perfA st c0 (E 1 - 97) E lg).2 from by rw [perf_p.2.2.1 (by omega), ← hrg.1]; exact ⟨hq470.1, hq470.2, CX_c hCX rfl rfl rfl, MG_c hMG rfl rfl⟩)
  by_cases hs1_376 : c0 = 118
  · refine lv_tableIn (off := 375) (tgt := 376) hx hb dMr_perform_1 (by rw [iI_toInt ⟨by omega, by omega⟩]; omega) (by rw [iI_toInt ⟨by omega, by omega⟩]; omega) (by rw [iI_toInt ⟨by omega, by omega⟩]; rw [hs1_376]; rfl) (by decide) ?_
    have hn1 : need c0 = 1 := need_c.2.2.2 (by omega)
    refine lv_aload_n hx hb dMr_perform_376 rfl (lv_at hl 0 rfl) ?_
    refine cvA_i (va_runV (C := "MacroReckoner") (As := []) (rest := []) ⟨hx, hb, hml, hown, hts⟩ (cMr_takeRoot l dC dI dA dS b tr hg wk at_ en cm rg st0 en0 lg tR ngR scR lnR uR lu ru su qu pl rv si D CR FR LF RF SF QF P vs tp st (by exact hCH) (by omega) H.size) (cwV 0 hts (gdV wt3_177 wt3_179 ws2_7 wt1_1 wt3_180) rfl rfl rfl ⟨rfl, by decide, by decide, by decide +kernel⟩ ⟨by decide, by decide⟩) (preVA (q := ("MacroReckoner", TMr, 11)) hK hP hD hS hA (XC_ok dS) hX 0 rfl rfl) rfl rfl hl.1 rfl (lv_room (Nat.le_of_ble_eq_true rfl)) dMr_perform_377 ⟨Nat.zero_le _, Nat.zero_le _⟩) hD hS hA (fun r377 u_ H locs hq377 hP hD hS => ?_)
    obtain ⟨vs1_377, tR1_377, ngR1_377, scR1_377, lnR1_377, uR1_377, FR1_377, LF1_377, lu1_377, RF1_377, ru1_377, SF1_377, su1_377, QF1_377, qu1_377⟩ := u_
    have hP : va_P (dC, dI) vwCl (wMr dA b tr hg wk at_ en cm rg st0 en0 lg tR1_377 ngR1_377 scR1_377 lnR1_377 uR1_377 lu1_377 ru1_377 su1_377 qu1_377 pl rv si D CR FR1_377 LF1_377 RF1_377 SF1_377 QF1_377 P (tl0 dA b vs1_377 tp)) H := hP
    have hD : va_D A (wMr dA b tr hg wk at_ en cm rg st0 en0 lg tR1_377 ngR1_377 scR1_377 lnR1_377 uR1_377 lu1_377 ru1_377 su1_377 qu1_377 pl rv si D CR FR1_377 LF1_377 RF1_377 SF1_377 QF1_377 P (tl0 dA b vs1_377 tp)) := hD
    have hq377 : r377 = (sqrtA st).1 ∧ CH si vs1_377 hg wk (sqrtA st).2 := hq377
    exact rt_i hx hb hr hlocks hK hS dMr_perform_380 (vs1_377, tr, tp, hg, wk, si, P, pl, rv, tR1_377, ngR1_377, scR1_377, lnR1_377, uR1_377, FR1_377, CR, LF1_377, lu1_377, RF1_377, ru1_377, SF1_377, su1_377, QF1_377, qu1_377) hP hD (show r377 = (perfA st c0 (E 1 - 97) E lg).1 ∧ CH si vs1_377 hg wk (perfA st c0 (E 1 - 97) E lg).2 ∧ CX tp tr (perfA st c0 (E 1 - 97) E lg).2 ∧ MG P pl (perfA st c0 (E 1 - 97) E lg).2 from by rw [perf_e.2.1 (by omega)]; exact ⟨hq377.1, hq377.2, CX_kp hCX sqr_kp, MG_kp hMG sqr_kp⟩)
  by_cases hs1_491 : c0 = 120
  · refine lv_tableIn (off := 490) (tgt := 491) hx hb dMr_perform_1 (by rw [iI_toInt ⟨by omega, by omega⟩]; omega) (by rw [iI_toInt ⟨by omega, by omega⟩]; omega) (by rw [iI_toInt ⟨by omega, by omega⟩]; rw [hs1_491]; rfl) (by decide) ?_
    have hn1 : need c0 = 1 := need_c.2.2.2 (by omega)
    refine lv_aload_n hx hb dMr_perform_491 rfl (lv_at hl 0 rfl) ?_
    refine cvA_i (va_runV (C := "MacroReckoner") (As := []) (rest := []) ⟨hx, hb, hml, hown, hts⟩ (cMr_runTop l dC dI dA dS b tr hg wk at_ en cm rg st0 en0 lg tR ngR scR lnR uR lu ru su qu pl rv si D CR FR LF RF SF QF P vs tp st (by exact hCH) (by exact hCX) (by omega) H.size) (cwV 0 hts (gdV wt4_14 wt4_16 ws3_2 wt1_1 wt4_17) rfl rfl rfl ⟨rfl, by decide, by decide, by decide +kernel⟩ ⟨by decide, by decide⟩) (preVA (q := ("MacroReckoner", TMr, 11)) hK hP hD hS hA (XC_ok dS) hX 0 rfl rfl) rfl rfl hl.1 rfl (lv_room (Nat.le_of_ble_eq_true rfl)) dMr_perform_492 ⟨Nat.zero_le _, Nat.zero_le _⟩) hD hS hA (fun r492 u_ H locs hq492 hP hD hS => ?_)
    obtain ⟨hg1_492, tr1_492, tp1_492⟩ := u_
    have hP : va_P (dC, dI) vwCl (wMr dA b tr1_492 hg1_492 wk at_ en cm rg st0 en0 lg tR ngR scR lnR uR lu ru su qu pl rv si D CR FR LF RF SF QF P (tl0 dA b vs tp1_492)) H := hP
    have hD : va_D A (wMr dA b tr1_492 hg1_492 wk at_ en cm rg st0 en0 lg tR ngR scR lnR uR lu ru su qu pl rv si D CR FR LF RF SF QF P (tl0 dA b vs tp1_492)) := hD
    have hq492 : r492 = (runA st).1 ∧ hg1_492 = (runA st).2.h ∧ CX tp1_492 tr1_492 (runA st).2 := hq492
    exact rt_i hx hb hr hlocks hK hS dMr_perform_495 (vs, tr1_492, tp1_492, hg1_492, wk, si, P, pl, rv, tR, ngR, scR, lnR, uR, FR, CR, LF, lu, RF, ru, SF, su, QF, qu) hP hD (show r492 = (perfA st c0 (E 1 - 97) E lg).1 ∧ CH si vs hg1_492 wk (perfA st c0 (E 1 - 97) E lg).2 ∧ CX tp1_492 tr1_492 (perfA st c0 (E 1 - 97) E lg).2 ∧ MG P pl (perfA st c0 (E 1 - 97) E lg).2 from by rw [perf_e.2.2.2.2.2.2.2.2.2.2.2.1 (by omega)]; have h := runA_k (st := st); rw [hq492.2.1]; exact ⟨hq492.1, CH_q hCH h.1 h.2.1 h.2.2.1 (by omega), hq492.2.2, MG_c hMG h.2.2.2.2.1 h.2.2.2.2.2.1⟩)
  by_cases hs1_407 : c0 = 122
  · refine lv_tableIn (off := 406) (tgt := 407) hx hb dMr_perform_1 (by rw [iI_toInt ⟨by omega, by omega⟩]; omega) (by rw [iI_toInt ⟨by omega, by omega⟩]; omega) (by rw [iI_toInt ⟨by omega, by omega⟩]; rw [hs1_407]; rfl) (by decide) ?_
    refine lv_aload_n hx hb dMr_perform_407 rfl (lv_at hl 0 rfl) ?_
    refine lv_aload_n hx hb dMr_perform_408 rfl (lv_at hl 0 rfl) ?_
    refine va_get (D := (dC, dI)) (ci := 6) (v := .int (iI hg)) (C := "MacroReckoner") (T := TMr) (N := 11) hx hb hts inMr hown hK hP 0 rfl rfl 5 (by decide) (hts _ wt1_178) (fun _ h9 => h9) rfl dMr_perform_409 ?_
    refine cvA_i (va_runV (C := "MacroReckoner") (As := [.int (iI hg)]) (rest := []) ⟨hx, hb, hml, hown, hts⟩ (cMr_pushCount l dC dI dA dS b tr hg wk at_ en cm rg st0 en0 lg tR ngR scR lnR uR lu ru su qu pl rv si D CR FR LF RF SF QF P vs tp st hg (by exact hCH) (by omega) H.size) (cwV 1 hts (gdV wt3_194 wt3_196 ws2_10 wt1_1 wt3_197) rfl rfl rfl ⟨rfl, by decide, by decide, by decide +kernel⟩ ⟨by decide, by decide⟩) (preVA (q := ("MacroReckoner", TMr, 11)) hK hP hD hS hA (XC_ok dS) hX 0 rfl rfl) rfl rfl hl.1 rfl (lv_room (Nat.le_of_ble_eq_true rfl)) dMr_perform_412 ⟨Nat.zero_le _, Nat.zero_le _⟩) hD hS hA (fun r412 u_ H locs hq412 hP hD hS => ?_)
    obtain ⟨vs1_412, hg1_412, FR1_412, uR1_412⟩ := u_
    have hP : va_P (dC, dI) vwCl (wMr dA b tr hg1_412 wk at_ en cm rg st0 en0 lg 0 0 0 0 uR1_412 lu ru su qu pl rv si D CR FR1_412 LF RF SF QF P (tl0 dA b vs1_412 tp)) H := hP
    have hD : va_D A (wMr dA b tr hg1_412 wk at_ en cm rg st0 en0 lg 0 0 0 0 uR1_412 lu ru su qu pl rv si D CR FR1_412 LF RF SF QF P (tl0 dA b vs1_412 tp)) := hD
    have hq412 : r412 = (pushA st (mkN hg 0)).1 ∧ CH si vs1_412 hg1_412 wk (pushA st (mkN hg 0)).2 := hq412
    exact rt_i hx hb hr hlocks hK hS dMr_perform_415 (vs1_412, tr, tp, hg1_412, wk, si, P, pl, rv, 0, 0, 0, 0, uR1_412, FR1_412, CR, LF, lu, RF, ru, SF, su, QF, qu) hP hD (show r412 = (perfA st c0 (E 1 - 97) E lg).1 ∧ CH si vs1_412 hg1_412 wk (perfA st c0 (E 1 - 97) E lg).2 ∧ CX tp tr (perfA st c0 (E 1 - 97) E lg).2 ∧ MG P pl (perfA st c0 (E 1 - 97) E lg).2 from by rw [perf_e.2.2.2.2.2.1 (by omega)]; rw [hh.1] at hq412; exact ⟨hq412.1, hq412.2, CX_kp hCX push_kp, MG_kp hMG push_kp⟩)
  by_cases hsd1 : c0 < 37 ∨ 122 < c0
  · refine lv_tableOut (tgt := 519) hx hb dMr_perform_1 (by rw [iI_toInt ⟨by omega, by omega⟩]; omega) (by decide) ?_
    refine lv_iconst (v := iI (-1)) hx hb dMr_perform_519 rfl ?_
    exact rt_i hx hb hr hlocks hK hS dMr_perform_520 (vs, tr, tp, hg, wk, si, P, pl, rv, tR, ngR, scR, lnR, uR, FR, CR, LF, lu, RF, ru, SF, su, QF, qu) hP hD (show (-1) = (perfA st c0 (E 1 - 97) E lg).1 ∧ CH si vs hg wk (perfA st c0 (E 1 - 97) E lg).2 ∧ CX tp tr (perfA st c0 (E 1 - 97) E lg).2 ∧ MG P pl (perfA st c0 (E 1 - 97) E lg).2 from by rw [perf_d (by omega) (by omega) (by omega)]; exact ⟨rfl, hCH, hCX, hMG⟩)
  have hse1 : c0 = 38 ∨ c0 = 39 ∨ c0 = 40 ∨ c0 = 41 ∨ c0 = 44 ∨ c0 = 46 ∨ c0 = 49 ∨ c0 = 50 ∨ c0 = 51 ∨ c0 = 52 ∨ c0 = 53 ∨ c0 = 54 ∨ c0 = 55 ∨ c0 = 56 ∨ c0 = 57 ∨ c0 = 58 ∨ c0 = 59 ∨ c0 = 63 ∨ c0 = 64 ∨ c0 = 65 ∨ c0 = 66 ∨ c0 = 67 ∨ c0 = 68 ∨ c0 = 69 ∨ c0 = 70 ∨ c0 = 71 ∨ c0 = 72 ∨ c0 = 73 ∨ c0 = 74 ∨ c0 = 76 ∨ c0 = 77 ∨ c0 = 78 ∨ c0 = 79 ∨ c0 = 80 ∨ c0 = 81 ∨ c0 = 82 ∨ c0 = 83 ∨ c0 = 84 ∨ c0 = 85 ∨ c0 = 86 ∨ c0 = 87 ∨ c0 = 89 ∨ c0 = 92 ∨ c0 = 93 ∨ c0 = 95 ∨ c0 = 96 ∨ c0 = 97 ∨ c0 = 98 ∨ c0 = 101 ∨ c0 = 103 ∨ c0 = 104 ∨ c0 = 105 ∨ c0 = 106 ∨ c0 = 109 ∨ c0 = 111 ∨ c0 = 116 ∨ c0 = 117 ∨ c0 = 119 ∨ c0 = 121 := by omega
  refine lv_tableIn (off := 518) (tgt := 519) hx hb dMr_perform_1 (by rw [iI_toInt ⟨by omega, by omega⟩]; omega) (by rw [iI_toInt ⟨by omega, by omega⟩]; omega) (by rw [iI_toInt ⟨by omega, by omega⟩]; rcases hse1 with hk | hk | hk | hk | hk | hk | hk | hk | hk | hk | hk | hk | hk | hk | hk | hk | hk | hk | hk | hk | hk | hk | hk | hk | hk | hk | hk | hk | hk | hk | hk | hk | hk | hk | hk | hk | hk | hk | hk | hk | hk | hk | hk | hk | hk | hk | hk | hk | hk | hk | hk | hk | hk | hk | hk | hk | hk | hk | hk <;> (rw [hk]; rfl)) (by decide) ?_
  refine lv_iconst (v := iI (-1)) hx hb dMr_perform_519 rfl ?_
  exact rt_i hx hb hr hlocks hK hS dMr_perform_520 (vs, tr, tp, hg, wk, si, P, pl, rv, tR, ngR, scR, lnR, uR, FR, CR, LF, lu, RF, ru, SF, su, QF, qu) hP hD (show (-1) = (perfA st c0 (E 1 - 97) E lg).1 ∧ CH si vs hg wk (perfA st c0 (E 1 - 97) E lg).2 ∧ CX tp tr (perfA st c0 (E 1 - 97) E lg).2 ∧ MG P pl (perfA st c0 (E 1 - 97) E lg).2 from by rw [perf_d (by omega) (by omega) (by omega)]; exact ⟨rfl, hCH, hCX, hMG⟩)
