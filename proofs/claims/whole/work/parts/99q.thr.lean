theorem wt2_70 : (Cond.codeSync ⟨"java/lang/Throwable", "fillInStackTrace", "()Ljava/lang/Throwable;"⟩ prog_19_method_18_code 1 (Option.some (Jvm.ClassFile.FieldType.object "java/lang/Throwable"))) ∈ wg := List.mem_filter.mpr ⟨List.mem_append_right _ (List.mem_append_right _ (List.mem_append_left _ (List.mem_of_getElem? (i := 70) rfl))), rfl⟩
theorem thA75 {args : Array Value} {s : State} (hts : ∀ w ∈ wg, w.before args s = true) (h1 : (Cond.laysStatic Bundle.tN "UNASSIGNED_STACK" Bundle.steD).before args s = true ∧ (Cond.isRef (.static Bundle.tN "UNASSIGNED_STACK" Bundle.steD)).before args s = true) (h2 : (Cond.laysStatic Bundle.tN "SUPPRESSED_SENTINEL" Bundle.listD).before args s = true ∧ (Cond.isRef (.static Bundle.tN "SUPPRESSED_SENTINEL" Bundle.listD)).before args s = true) (h3 : va_Nw (.declares ⟨"java/lang/RuntimeException", "<init>", "()V"⟩) s ∧ va_Nw (.declares ⟨"java/lang/Exception", "<init>", "()V"⟩) s ∧ va_Nw (.declares ⟨"java/lang/Throwable", "<init>", "()V"⟩) s ∧ va_Nw (.castable iae iae) s) : ∀ a ∈ Bundle.ownAtoms0 "MacroReckoner" 75 "java/lang/IllegalArgumentException" ["java/lang/RuntimeException", "java/lang/Exception"], a.before args s = true := by
  have q1 : ∀ a ∈ Bundle.throwableAtoms, a.before args s = true := (al_c (hts _ wt1_10) (al_c (hts _ wt2_59) (al_c (hts _ wt2_68) (al_c (hts _ wt2_70) (al_c (hts _ wt2_73) (al_c (hts _ wt2_75) (al_c (hts _ wt2_60) (al_c (hts _ wt2_61) (al_c (hts _ wt1_26) (al_c (hts _ wt1_27) (al_c (hts _ wt2_62) (al_c (hts _ wt2_67) (al_c (hts _ wt2_71) (al_c (hts _ wt2_87) (al_c (hts _ wt2_49) (al_c (hts _ wt2_88) (al_c (hts _ wt2_51) (al_c (hts _ wt2_89) (al_c (hts _ wt2_53) (al_c (hts _ wt2_63) (al_c h1.1 (al_c (hts _ wt2_65) (al_c h2.1 (al_c (hts _ wt2_55) al_n))))))))))))))))))))))))
  have q2 : ∀ a ∈ Bundle.passAtoms "java/lang/IllegalArgumentException" "java/lang/RuntimeException" 1 Bundle.five, a.before args s = true := (al_c (hts _ wt2_77) (al_c (hts _ wt2_78) (al_c (hts _ wt2_79) (al_c (hts _ wt2_80) (al_c (va_Nw.use rfl h3.1) al_n)))))
  have q3 : ∀ a ∈ Bundle.passAtoms "java/lang/RuntimeException" "java/lang/Exception" 1 Bundle.five, a.before args s = true := (al_c (hts _ wt2_80) (al_c (hts _ wt2_81) (al_c (hts _ wt2_82) (al_c (hts _ wt2_83) (al_c (va_Nw.use rfl h3.2.1) al_n)))))
  have q4 : ∀ a ∈ Bundle.passAtoms "java/lang/Exception" Bundle.tN 1 Bundle.five, a.before args s = true := (al_c (hts _ wt2_83) (al_c (hts _ wt2_84) (al_c (hts _ wt2_85) (al_c (hts _ wt2_60) (al_c (va_Nw.use rfl h3.2.2.1) al_n)))))
  intro a ha
  rcases List.mem_append.mp ha with g1 | g2
  · rcases List.mem_append.mp g1 with g3 | g4
    · exact q1 a g3
    · have g5 : a ∈ Bundle.passAtoms "java/lang/IllegalArgumentException" "java/lang/RuntimeException" 1 Bundle.five ++ (Bundle.passAtoms "java/lang/RuntimeException" "java/lang/Exception" 1 Bundle.five ++ Bundle.passAtoms "java/lang/Exception" Bundle.tN 1 Bundle.five) := g4
      rcases List.mem_append.mp g5 with g6 | g7
      · exact q2 a g6
      · rcases List.mem_append.mp g7 with g8 | g9
        · exact q3 a g8
        · exact q4 a g9
  · clear ha
    revert g2
    revert a
    exact (al_c (hts _ wt2_76) (al_c (hts _ wt2_38) (al_c (va_Nw.use rfl h3.2.2.2) (al_c (hts _ wt2_46) (al_c (hts _ wt2_47) (al_c (hts _ wt2_48) (al_c (hts _ wt2_50) (al_c (hts _ wt2_52) (al_c (hts _ wt2_54) (al_c h1.2 (al_c h2.2 (al_c (hts _ wt2_58) (al_c (hts _ wt2_57) (al_c (hts _ wt2_56) al_n))))))))))))))

abbrev rmTMr_run : Room := { frames := 6, cells := 1, slots := 6, locals := 90 }
set_option maxRecDepth 100000 in
theorem tMr_run (l : Launch) (hfl : ∀ e : Env, l.admits e → e.platform.stackTraces = false) (b : Nat) (n0 : Int) (hn0 : r32 n0) (hbad : n0 < 1 ∨ 100 < n0) : TMet l yMr_run wsMr_run rmTMr_run [.ref b, .int (iI n0)] := by
  refine tmet_of (cc := prog_1_method_3_code) (maxL := 4) (ret := (some .int)) (by decide) rfl (Nat.le_of_ble_eq_true rfl) ?_
  intro p e s m below meth c ls hx hb hml hown hts hlocks hex hadm hX hl
  have hl : lv_has ls 4 [(0, .ref b), (1, .int (iI n0))] := hl
  have hown : s.vm.findClass "MacroReckoner" = some m.cls := hown
  have hthr : W p l e rmTMr_run s m [.ref b, .int (iI n0)].toArray below meth c s.heap [] 0 0 (TQ below s) (F0 m 11 ls []) :=
    W_thrN (names := ["java/lang/RuntimeException", "java/lang/Exception"]) hx hb hown (hts _ wt2_37) (hts _ wt2_38) (hts _ wt1_13) (thA75 hts (vE_at hX.1 _) (vE_at hX.2.1 _) hX.2.2) (fun n hn => by simp only [List.mem_cons, List.not_mem_nil, or_false] at hn; rcases hn with rfl | rfl <;> decide) (hfl e hadm) hlocks hex (hl.1.trans hml.symm) (Nat.le_refl _) dMr_run_11 dMr_run_14 dMr_run_15 dMr_run_18 (by decide) (by decide) (by decide) (by decide)
  refine lv_iload_n hx hb dMr_run_0 rfl (lv_at hl 1 rfl) ?_
  refine lv_iconst (v := iI 1) hx hb dMr_run_1 rfl ?_
  refine iv_icmp_lt (tgt := 11) hx hb dMr_run_2 (by decide) ⟨by omega, by omega⟩ ⟨by decide, by decide⟩ (fun hc2 => ?_) (fun hc2 => ?_)
  · skip
    exact hthr
  · skip
    refine lv_iload_n hx hb dMr_run_5 rfl (lv_at hl 1 rfl) ?_
    refine lv_bipush (v := iI 100) hx hb dMr_run_6 (by decide) ?_
    refine iv_icmp_le (tgt := 19) hx hb dMr_run_8 (by decide) ⟨by omega, by omega⟩ ⟨by decide, by decide⟩ (fun hc8 => ?_) (fun hc8 => ?_)
    · skip
      exfalso
      omega
    · skip
      exact hthr
abbrev rmTMr_isText : Room := { frames := 6, cells := 1, slots := 6, locals := 90 }
set_option maxRecDepth 100000 in
theorem tMr_isText (l : Launch) (hfl : ∀ e : Env, l.admits e → e.platform.stackTraces = false) (b : Nat) (ch : Int) (hn0 : 0 ≤ ch ∧ ch < 65536) (hbad : ch < 97 ∨ 122 < ch) : TMet l yMr_isText wsMr_isText rmTMr_isText [.ref b, .int (iI ch)] := by
  refine tmet_of (cc := prog_1_method_8_code) (maxL := 2) (ret := (some .boolean)) (by decide) rfl (Nat.le_of_ble_eq_true rfl) ?_
  intro p e s m below meth c ls hx hb hml hown hts hlocks hex hadm hX hl
  have hl : lv_has ls 2 [(0, .ref b), (1, .int (iI ch))] := hl
  have hown : s.vm.findClass "MacroReckoner" = some m.cls := hown
  have hthr : W p l e rmTMr_isText s m [.ref b, .int (iI ch)].toArray below meth c s.heap [] 0 0 (TQ below s) (F0 m 12 ls []) :=
    W_thrN (names := ["java/lang/RuntimeException", "java/lang/Exception"]) hx hb hown (hts _ wt2_37) (hts _ wt2_38) (hts _ wt1_13) (thA75 hts (vE_at hX.1 _) (vE_at hX.2.1 _) hX.2.2) (fun n hn => by simp only [List.mem_cons, List.not_mem_nil, or_false] at hn; rcases hn with rfl | rfl <;> decide) (hfl e hadm) hlocks hex (hl.1.trans hml.symm) (Nat.le_refl _) dMr_isText_12 dMr_isText_15 dMr_isText_16 dMr_isText_19 (by decide) (by decide) (by decide) (by decide)
  refine lv_iload_n hx hb dMr_isText_0 rfl (lv_at hl 1 rfl) ?_
  refine lv_bipush (v := iI 97) hx hb dMr_isText_1 (by decide) ?_
  refine iv_icmp_lt (tgt := 12) hx hb dMr_isText_3 (by decide) ⟨by omega, by omega⟩ ⟨by decide, by decide⟩ (fun hc3 => ?_) (fun hc3 => ?_)
  · skip
    exact hthr
  · skip
    refine lv_iload_n hx hb dMr_isText_6 rfl (lv_at hl 1 rfl) ?_
    refine lv_bipush (v := iI 122) hx hb dMr_isText_7 (by decide) ?_
    refine iv_icmp_le (tgt := 20) hx hb dMr_isText_9 (by decide) ⟨by omega, by omega⟩ ⟨by decide, by decide⟩ (fun hc9 => ?_) (fun hc9 => ?_)
    · skip
      exfalso
      omega
    · skip
      exact hthr
