/-! what holds at the law's entry -/
theorem arr_p {args : Array Value} {s : State} {ty : FieldType} (h : (Cond.arrayClass ty).before args s = true) (hr : ∀ cA, s.vm.findClass ("[" ++ ty.toString) = some cA → va_RA s cA ty) : ∃ cA, ArrOfT s cA ty ∧ va_RA s cA ty := by
  obtain ⟨cA, kA, comp, h1, h2, h3⟩ := Cond.arrayClass_spec h
  exact ⟨cA, fun n z => ⟨fun k q => (by cases q), kA, h2, comp, h3⟩, hr cA h1⟩
theorem arr_o {args : Array Value} {s : State} {C : String} (h : (Cond.arrayOver (.object C)).before args s = true) : ∃ cA, ArrOfT s cA (.object C) ∧ va_RA s cA (.object C) := by
  obtain ⟨comp, c, k, h1, h2, h3, h4, h5⟩ := Cond.arrayOver_spec h
  exact ⟨c, fun n z => ⟨fun k q => (by cases q), k, h3, comp, h4⟩, k, comp, h3, h4, h1, h5⟩
theorem K_ex {args : Array Value} {s : State} (hts : ∀ w ∈ wg, w.before args s = true) (h4 : (Cond.arrayOver (.object "MacroReckoner$Value")).before args s = true) (h5 : (Cond.arrayOver (.object "MacroReckoner$Tape")).before args s = true) : ∃ (dC : Nat → ClassId) (dI : Nat → Nat → Nat) (dA : Nat → ClassId), va_K (dC, dI) vwCl (tyA dA) s := by
  obtain ⟨c0, i0, k0⟩ := u_known hts inAr (hts _ wt1_135)
  obtain ⟨c1, i1, k1⟩ := u_known hts inPa (hts _ wt1_159)
  obtain ⟨c2, i2, k2⟩ := u_known hts inTa (hts _ wt1_29)
  obtain ⟨c3, i3, k3⟩ := u_known hts inTo (hts _ wt1_50)
  obtain ⟨c4, i4, k4⟩ := u_known hts inVa (hts _ wt1_81)
  obtain ⟨c5, i5, k5⟩ := u_known hts inWh (hts _ wt1_87)
  obtain ⟨c6, i6, k6⟩ := u_known hts inMr (hts _ wt1_21)
  obtain ⟨c7, i7, k7⟩ := u_known hts inMo (hts _ wt4_53)
  obtain ⟨a0, p0, q0⟩ := arr_p (hts _ wt1_99) (fun _ h => h)
  obtain ⟨a1, p1, q1⟩ := arr_p (hts _ wt1_47) (fun _ h => h)
  obtain ⟨a2, p2, q2⟩ := arr_p (hts _ wt4_128) (fun _ h => h)
  obtain ⟨a3, p3, q3⟩ := arr_p (hts _ wt5_129) (fun _ h => h)
  obtain ⟨a4, p4, q4⟩ := arr_o h4
  obtain ⟨a5, p5, q5⟩ := arr_o h5
  refine ⟨fun n => match n with | 0 => c0 | 1 => c1 | 2 => c2 | 3 => c3 | 4 => c4 | 5 => c5 | 6 => c6 | _ => c7, fun n => match n with | 0 => i0 | 1 => i1 | 2 => i2 | 3 => i3 | 4 => i4 | 5 => i5 | 6 => i6 | _ => i7, fun n => match n with | 0 => a0 | 1 => a1 | 2 => a2 | 3 => a3 | 4 => a4 | _ => a5, fun c q hq => ?_, fun k q hk => ?_⟩
  · have hc : c < 8 := (List.getElem?_eq_some_iff.mp hq).1
    rcases (show c = 0 ∨ c = 1 ∨ c = 2 ∨ c = 3 ∨ c = 4 ∨ c = 5 ∨ c = 6 ∨ c = 7 by omega) with rfl | rfl | rfl | rfl | rfl | rfl | rfl | rfl <;> cases hq
    · exact k0
    · exact k1
    · exact k2
    · exact k3
    · exact k4
    · exact k5
    · exact k6
    · exact k7
  · have hc : k < 6 := (List.getElem?_eq_some_iff.mp hk).1
    rcases (show k = 0 ∨ k = 1 ∨ k = 2 ∨ k = 3 ∨ k = 4 ∨ k = 5 by omega) with rfl | rfl | rfl | rfl | rfl | rfl <;> cases hk
    · exact ⟨p0, q0⟩
    · exact ⟨p1, q1⟩
    · exact ⟨p2, q2⟩
    · exact ⟨p3, q3⟩
    · exact ⟨p4, q4⟩
    · exact ⟨p5, q5⟩
theorem nF_0 {args : Array Value} {s : State} (hts : ∀ w ∈ lw_tbl, w.before args s = true) : ∀ q ∈ nestF, va_Nw (.fieldLinkNest q.1 q.2.1 q.2.2.1 q.2.2.2.1 q.2.2.2.2.1 q.2.2.2.2.2) s := List.forall_mem_cons.mpr ⟨va_Nw.of rfl (hts _ (List.mem_append_right _ (List.mem_append_left _ (List.mem_of_getElem? (i := 35) rfl)))), List.forall_mem_cons.mpr ⟨va_Nw.of rfl (hts _ (List.mem_append_right _ (List.mem_append_left _ (List.mem_of_getElem? (i := 37) rfl)))), List.forall_mem_cons.mpr ⟨va_Nw.of rfl (hts _ (List.mem_append_right _ (List.mem_append_left _ (List.mem_of_getElem? (i := 39) rfl)))), List.forall_mem_cons.mpr ⟨va_Nw.of rfl (hts _ (List.mem_append_right _ (List.mem_append_left _ (List.mem_of_getElem? (i := 56) rfl)))), List.forall_mem_cons.mpr ⟨va_Nw.of rfl (hts _ (List.mem_append_right _ (List.mem_append_left _ (List.mem_of_getElem? (i := 58) rfl)))), List.forall_mem_cons.mpr ⟨va_Nw.of rfl (hts _ (List.mem_append_right _ (List.mem_append_left _ (List.mem_of_getElem? (i := 60) rfl)))), List.forall_mem_cons.mpr ⟨va_Nw.of rfl (hts _ (List.mem_append_right _ (List.mem_append_left _ (List.mem_of_getElem? (i := 62) rfl)))), List.forall_mem_cons.mpr ⟨va_Nw.of rfl (hts _ (List.mem_append_right _ (List.mem_append_left _ (List.mem_of_getElem? (i := 65) rfl)))), List.forall_mem_cons.mpr ⟨va_Nw.of rfl (hts _ (List.mem_append_right _ (List.mem_append_left _ (List.mem_of_getElem? (i := 101) rfl)))), List.forall_mem_cons.mpr ⟨va_Nw.of rfl (hts _ (List.mem_append_right _ (List.mem_append_left _ (List.mem_of_getElem? (i := 102) rfl)))), List.forall_mem_cons.mpr ⟨va_Nw.of rfl (hts _ (List.mem_append_right _ (List.mem_append_left _ (List.mem_of_getElem? (i := 104) rfl)))), List.forall_mem_cons.mpr ⟨va_Nw.of rfl (hts _ (List.mem_append_right _ (List.mem_append_left _ (List.mem_of_getElem? (i := 105) rfl)))), List.forall_mem_cons.mpr ⟨va_Nw.of rfl (hts _ (List.mem_append_right _ (List.mem_append_left _ (List.mem_of_getElem? (i := 106) rfl)))), List.forall_mem_cons.mpr ⟨va_Nw.of rfl (hts _ (List.mem_append_right _ (List.mem_append_left _ (List.mem_of_getElem? (i := 108) rfl)))), List.forall_mem_cons.mpr ⟨va_Nw.of rfl (hts _ (List.mem_append_right _ (List.mem_append_left _ (List.mem_of_getElem? (i := 109) rfl)))), List.forall_mem_cons.mpr ⟨va_Nw.of rfl (hts _ (List.mem_append_right _ (List.mem_append_left _ (List.mem_of_getElem? (i := 110) rfl)))), List.forall_mem_cons.mpr ⟨va_Nw.of rfl (hts _ (List.mem_append_right _ (List.mem_append_left _ (List.mem_of_getElem? (i := 112) rfl)))), List.forall_mem_cons.mpr ⟨va_Nw.of rfl (hts _ (List.mem_append_right _ (List.mem_append_left _ (List.mem_of_getElem? (i := 113) rfl)))), List.forall_mem_cons.mpr ⟨va_Nw.of rfl (hts _ (List.mem_append_right _ (List.mem_append_left _ (List.mem_of_getElem? (i := 114) rfl)))), List.forall_mem_cons.mpr ⟨va_Nw.of rfl (hts _ (List.mem_append_right _ (List.mem_append_left _ (List.mem_of_getElem? (i := 116) rfl)))), List.forall_mem_cons.mpr ⟨va_Nw.of rfl (hts _ (List.mem_append_right _ (List.mem_append_left _ (List.mem_of_getElem? (i := 117) rfl)))), List.forall_mem_cons.mpr ⟨va_Nw.of rfl (hts _ (List.mem_append_right _ (List.mem_append_left _ (List.mem_of_getElem? (i := 119) rfl)))), List.forall_mem_cons.mpr ⟨va_Nw.of rfl (hts _ (List.mem_append_right _ (List.mem_append_left _ (List.mem_of_getElem? (i := 120) rfl)))), List.forall_mem_cons.mpr ⟨va_Nw.of rfl (hts _ (List.mem_append_right _ (List.mem_append_left _ (List.mem_of_getElem? (i := 165) rfl)))), List.forall_mem_cons.mpr ⟨va_Nw.of rfl (hts _ (List.mem_append_right _ (List.mem_append_left _ (List.mem_of_getElem? (i := 167) rfl)))), fun _ h => absurd h List.not_mem_nil⟩⟩⟩⟩⟩⟩⟩⟩⟩⟩⟩⟩⟩⟩⟩⟩⟩⟩⟩⟩⟩⟩⟩⟩⟩
theorem nM_0' {args : Array Value} {s : State} (hts : ∀ w ∈ lw_tbl, w.before args s = true) : ∀ q ∈ nestM, va_Nw (.methodLinkNest q.1 q.2.1 q.2.2.1 q.2.2.2) s := List.forall_mem_cons.mpr ⟨va_Nw.of rfl (hts _ (List.mem_append_right _ (List.mem_append_left _ (List.mem_of_getElem? (i := 51) rfl)))), List.forall_mem_cons.mpr ⟨va_Nw.of rfl (hts _ (List.mem_append_right _ (List.mem_append_left _ (List.mem_of_getElem? (i := 82) rfl)))), List.forall_mem_cons.mpr ⟨va_Nw.of rfl (hts _ (List.mem_append_right _ (List.mem_append_left _ (List.mem_of_getElem? (i := 88) rfl)))), List.forall_mem_cons.mpr ⟨va_Nw.of rfl (hts _ (List.mem_append_right _ (List.mem_append_left _ (List.mem_of_getElem? (i := 141) rfl)))), List.forall_mem_cons.mpr ⟨va_Nw.of rfl (hts _ (List.mem_append_right _ (List.mem_append_left _ (List.mem_of_getElem? (i := 160) rfl)))), fun _ h => absurd h List.not_mem_nil⟩⟩⟩⟩⟩
theorem aoV {args : Array Value} {s : State} (hts : ∀ w ∈ lw_tbl, w.before args s = true) : (Cond.arrayOver (.object "MacroReckoner$Value")).before args s = true := hts _ (List.mem_append_right _ (List.mem_append_left _ (List.mem_of_getElem? (i := 80) rfl)))
theorem aoT {args : Array Value} {s : State} (hts : ∀ w ∈ lw_tbl, w.before args s = true) : (Cond.arrayOver (.object "MacroReckoner$Tape")).before args s = true := hts _ (List.mem_append_right _ (List.mem_append_left _ (List.mem_of_getElem? (i := 48) rfl)))
theorem XY_0 {args : Array Value} {s : State} {A : Nat → Prop} (hts : ∀ w ∈ lw_tbl, w.before args s = true) : XY A s s.heap := ⟨nM_0' hts, va_AO.of (aoT hts), va_AO.of (aoV hts)⟩
theorem XE_0 {args : Array Value} {s : State} {A : Nat → Prop} (hts : ∀ w ∈ lw_tbl, w.before args s = true) (hn : ∀ c ∈ flatC (Jvm.Cond.and given_1 narrow_1), c.before args s = true) (hA : ∀ a : Nat, a < s.heap.size → ¬ A a) : XE A s s.heap := ⟨vE_of (hts _ (List.mem_append_right _ (List.mem_append_right _ (List.mem_append_left _ (List.mem_of_getElem? (i := 64) rfl))))) (hn _ (by decide +kernel)) hA, vE_of (hts _ (List.mem_append_right _ (List.mem_append_right _ (List.mem_append_left _ (List.mem_of_getElem? (i := 66) rfl))))) (hn _ (by decide +kernel)) hA, va_Nw.of rfl (hts _ (List.mem_append_right _ (List.mem_append_right _ (List.mem_append_left _ (List.mem_of_getElem? (i := 40) rfl))))), va_Nw.of rfl (hts _ (List.mem_append_right _ (List.mem_append_right _ (List.mem_append_left _ (List.mem_of_getElem? (i := 42) rfl))))), va_Nw.of rfl (hts _ (List.mem_append_right _ (List.mem_append_right _ (List.mem_append_left _ (List.mem_of_getElem? (i := 44) rfl))))), va_Nw.of rfl (hts _ (List.mem_append_right _ (List.mem_append_right _ (List.mem_append_left _ (List.mem_of_getElem? (i := 39) rfl)))))⟩
theorem eq_ev {args : Array Value} {s : State} {t : Term} {v : Int32} (h : (Cond.eq t (.int v)).before args s = true) : t.eval args s none [] s = some (.int v) := by
  cases hv : t.eval args s none [] s with
  | none => simp [Cond.before, Cond.holds, Cond.value, hv] at h
  | some w =>
    have h9 : (Term.int v).eval args s none [] s = some (.int v) := rfl
    simp only [Cond.before, Cond.holds, Cond.value, hv, h9] at h
    cases w with
    | int x => simp at h; rw [h]
    | _ => simp at h
theorem tens_0 {args : Array Value} {s : State} (hn : ∀ c ∈ flatC (Jvm.Cond.and given_1 narrow_1), c.before args s = true) : ∀ j : Nat, j < 9 → (Term.elem (Term.static "MacroReckoner$Whole" "TENS" "[I") (.int (Int32.ofNat j))).eval args s none [] s = some (.int (iI (PW 10 j))) := by
  intro j hj
  rcases (show j = 0 ∨ j = 1 ∨ j = 2 ∨ j = 3 ∨ j = 4 ∨ j = 5 ∨ j = 6 ∨ j = 7 ∨ j = 8 by omega) with rfl | rfl | rfl | rfl | rfl | rfl | rfl | rfl | rfl
  · exact eq_ev (v := 1) (hn (Cond.eq (.elem (Term.static "MacroReckoner$Whole" "TENS" "[I") (.int 0)) (.int 1)) (by decide +kernel))
  · exact eq_ev (v := 10) (hn (Cond.eq (.elem (Term.static "MacroReckoner$Whole" "TENS" "[I") (.int 1)) (.int 10)) (by decide +kernel))
  · exact eq_ev (v := 100) (hn (Cond.eq (.elem (Term.static "MacroReckoner$Whole" "TENS" "[I") (.int 2)) (.int 100)) (by decide +kernel))
  · exact eq_ev (v := 1000) (hn (Cond.eq (.elem (Term.static "MacroReckoner$Whole" "TENS" "[I") (.int 3)) (.int 1000)) (by decide +kernel))
  · exact eq_ev (v := 10000) (hn (Cond.eq (.elem (Term.static "MacroReckoner$Whole" "TENS" "[I") (.int 4)) (.int 10000)) (by decide +kernel))
  · exact eq_ev (v := 100000) (hn (Cond.eq (.elem (Term.static "MacroReckoner$Whole" "TENS" "[I") (.int 5)) (.int 100000)) (by decide +kernel))
  · exact eq_ev (v := 1000000) (hn (Cond.eq (.elem (Term.static "MacroReckoner$Whole" "TENS" "[I") (.int 6)) (.int 1000000)) (by decide +kernel))
  · exact eq_ev (v := 10000000) (hn (Cond.eq (.elem (Term.static "MacroReckoner$Whole" "TENS" "[I") (.int 7)) (.int 10000000)) (by decide +kernel))
  · exact eq_ev (v := 100000000) (hn (Cond.eq (.elem (Term.static "MacroReckoner$Whole" "TENS" "[I") (.int 8)) (.int 100000000)) (by decide +kernel))
theorem XC_0 {args : Array Value} {s : State} {A : Nat → Prop} (hts : ∀ w ∈ lw_tbl, w.before args s = true) (hn : ∀ c ∈ flatC (Jvm.Cond.and given_1 narrow_1), c.before args s = true) (hA : ∀ a : Nat, a < s.heap.size → ¬ A a) : ∃ dS : Nat → Nat, XC dS A s s.heap := by
  obtain ⟨t, h1, h2⟩ := va_Tof (tm := (Term.static "MacroReckoner$Whole" "TENS" "[I")) (ty := .int) (N := 9) (f := fun j => .int (iI (PW 10 j))) (A := A) (by decide) (hn _ (by decide +kernel)) (eq_ev (v := 9) (hn (Cond.eq (.length (Term.static "MacroReckoner$Whole" "TENS" "[I")) (.int 9)) (by decide +kernel))) (tens_0 hn) hA
  exact ⟨fun _ => t, nF_0 hts, nM_0' hts, va_Zref (hts _ (List.mem_append_right _ (List.mem_append_right _ (List.mem_append_right _ (List.mem_append_left _ (List.mem_of_getElem? (i := 35) rfl)))))) (hts _ (List.mem_append_right _ (List.mem_append_left _ (List.mem_of_getElem? (i := 5) rfl)))) h1 hA, h2, trivial⟩
def stT : Nat → Term := fun n => match n with | 0 => .string "MacroReckoner" 137 | 1 => .string "MacroReckoner" 145 | _ => .string "MacroReckoner" 147
theorem st_ex {args : Array Value} {s : State} (hn : ∀ c ∈ flatC (Jvm.Cond.and given_1 narrow_1), c.before args s = true) : ∀ i : Nat, i < 3 → (Cond.exactly (stT i) "java/lang/String").before args s = true := by
  intro i hi
  rcases (show i = 0 ∨ i = 1 ∨ i = 2 by omega) with rfl | rfl | rfl
  · exact hn (Cond.exactly (Term.string "MacroReckoner" 137) "java/lang/String") (by decide +kernel)
  · exact hn (Cond.exactly (Term.string "MacroReckoner" 145) "java/lang/String") (by decide +kernel)
  · exact hn (Cond.exactly (Term.string "MacroReckoner" 147) "java/lang/String") (by decide +kernel)
theorem st_co {args : Array Value} {s : State} (hn : ∀ c ∈ flatC (Jvm.Cond.and given_1 narrow_1), c.before args s = true) : ∀ i : Nat, i < 3 → (Cond.eq (.field (stT i) "java/lang/String" "coder" "B") (.int 0)).before args s = true := by
  intro i hi
  rcases (show i = 0 ∨ i = 1 ∨ i = 2 by omega) with rfl | rfl | rfl
  · exact hn (Cond.eq (.field (Term.string "MacroReckoner" 137) "java/lang/String" "coder" "B") (.int 0)) (by decide +kernel)
  · exact hn (Cond.eq (.field (Term.string "MacroReckoner" 145) "java/lang/String" "coder" "B") (.int 0)) (by decide +kernel)
  · exact hn (Cond.eq (.field (Term.string "MacroReckoner" 147) "java/lang/String" "coder" "B") (.int 0)) (by decide +kernel)
theorem st_ar {args : Array Value} {s : State} (hn : ∀ c ∈ flatC (Jvm.Cond.and given_1 narrow_1), c.before args s = true) : ∀ i : Nat, i < 3 → (Cond.arrayOf (.field (stT i) "java/lang/String" "value" "[B") .byte).before args s = true := by
  intro i hi
  rcases (show i = 0 ∨ i = 1 ∨ i = 2 by omega) with rfl | rfl | rfl
  · exact hn (Cond.arrayOf (.field (Term.string "MacroReckoner" 137) "java/lang/String" "value" "[B") .byte) (by decide +kernel)
  · exact hn (Cond.arrayOf (.field (Term.string "MacroReckoner" 145) "java/lang/String" "value" "[B") .byte) (by decide +kernel)
  · exact hn (Cond.arrayOf (.field (Term.string "MacroReckoner" 147) "java/lang/String" "value" "[B") .byte) (by decide +kernel)
theorem st_le {args : Array Value} {s : State} (hn : ∀ c ∈ flatC (Jvm.Cond.and given_1 narrow_1), c.before args s = true) : ∀ i : Nat, i < 3 → (Cond.eq (.length (.field (stT i) "java/lang/String" "value" "[B")) (.int (Int32.ofNat (stL.getD i 0)))).before args s = true := by
  intro i hi
  rcases (show i = 0 ∨ i = 1 ∨ i = 2 by omega) with rfl | rfl | rfl
  · exact hn (Cond.eq (.length (.field (Term.string "MacroReckoner" 137) "java/lang/String" "value" "[B")) (.int 10)) (by decide +kernel)
  · exact hn (Cond.eq (.length (.field (Term.string "MacroReckoner" 145) "java/lang/String" "value" "[B")) (.int 9)) (by decide +kernel)
  · exact hn (Cond.eq (.length (.field (Term.string "MacroReckoner" 147) "java/lang/String" "value" "[B")) (.int 11)) (by decide +kernel)
theorem st_e0 {args : Array Value} {s : State} (hn : ∀ c ∈ flatC (Jvm.Cond.and given_1 narrow_1), c.before args s = true) : ∀ j : Nat, j < 10 → (Cond.eq (.elem (.field (Term.string "MacroReckoner" 137) "java/lang/String" "value" "[B") (.int (Int32.ofNat j))) (.int ((stB.getD 0 []).getD j 0))).before args s = true := by
  intro j hj
  rcases (show j = 0 ∨ j = 1 ∨ j = 2 ∨ j = 3 ∨ j = 4 ∨ j = 5 ∨ j = 6 ∨ j = 7 ∨ j = 8 ∨ j = 9 by omega) with rfl | rfl | rfl | rfl | rfl | rfl | rfl | rfl | rfl | rfl
  · exact hn (Cond.eq (.elem (.field (Term.string "MacroReckoner" 137) "java/lang/String" "value" "[B") (.int 0)) (.int 43)) (by decide +kernel)
  · exact hn (Cond.eq (.elem (.field (Term.string "MacroReckoner" 137) "java/lang/String" "value" "[B") (.int 1)) (.int 45)) (by decide +kernel)
  · exact hn (Cond.eq (.elem (.field (Term.string "MacroReckoner" 137) "java/lang/String" "value" "[B") (.int 2)) (.int 42)) (by decide +kernel)
  · exact hn (Cond.eq (.elem (.field (Term.string "MacroReckoner" 137) "java/lang/String" "value" "[B") (.int 3)) (.int 47)) (by decide +kernel)
  · exact hn (Cond.eq (.elem (.field (Term.string "MacroReckoner" 137) "java/lang/String" "value" "[B") (.int 4)) (.int 37)) (by decide +kernel)
  · exact hn (Cond.eq (.elem (.field (Term.string "MacroReckoner" 137) "java/lang/String" "value" "[B") (.int 5)) (.int 94)) (by decide +kernel)
  · exact hn (Cond.eq (.elem (.field (Term.string "MacroReckoner" 137) "java/lang/String" "value" "[B") (.int 6)) (.int 114)) (by decide +kernel)
  · exact hn (Cond.eq (.elem (.field (Term.string "MacroReckoner" 137) "java/lang/String" "value" "[B") (.int 7)) (.int 60)) (by decide +kernel)
  · exact hn (Cond.eq (.elem (.field (Term.string "MacroReckoner" 137) "java/lang/String" "value" "[B") (.int 8)) (.int 62)) (by decide +kernel)
  · exact hn (Cond.eq (.elem (.field (Term.string "MacroReckoner" 137) "java/lang/String" "value" "[B") (.int 9)) (.int 61)) (by decide +kernel)
theorem st_e1 {args : Array Value} {s : State} (hn : ∀ c ∈ flatC (Jvm.Cond.and given_1 narrow_1), c.before args s = true) : ∀ j : Nat, j < 9 → (Cond.eq (.elem (.field (Term.string "MacroReckoner" 145) "java/lang/String" "value" "[B") (.int (Int32.ofNat j))) (.int ((stB.getD 1 []).getD j 0))).before args s = true := by
  intro j hj
  rcases (show j = 0 ∨ j = 1 ∨ j = 2 ∨ j = 3 ∨ j = 4 ∨ j = 5 ∨ j = 6 ∨ j = 7 ∨ j = 8 by omega) with rfl | rfl | rfl | rfl | rfl | rfl | rfl | rfl | rfl
  · exact hn (Cond.eq (.elem (.field (Term.string "MacroReckoner" 145) "java/lang/String" "value" "[B") (.int 0)) (.int 118)) (by decide +kernel)
  · exact hn (Cond.eq (.elem (.field (Term.string "MacroReckoner" 145) "java/lang/String" "value" "[B") (.int 1)) (.int 100)) (by decide +kernel)
  · exact hn (Cond.eq (.elem (.field (Term.string "MacroReckoner" 145) "java/lang/String" "value" "[B") (.int 2)) (.int 107)) (by decide +kernel)
  · exact hn (Cond.eq (.elem (.field (Term.string "MacroReckoner" 145) "java/lang/String" "value" "[B") (.int 3)) (.int 112)) (by decide +kernel)
  · exact hn (Cond.eq (.elem (.field (Term.string "MacroReckoner" 145) "java/lang/String" "value" "[B") (.int 4)) (.int 110)) (by decide +kernel)
  · exact hn (Cond.eq (.elem (.field (Term.string "MacroReckoner" 145) "java/lang/String" "value" "[B") (.int 5)) (.int 90)) (by decide +kernel)
  · exact hn (Cond.eq (.elem (.field (Term.string "MacroReckoner" 145) "java/lang/String" "value" "[B") (.int 6)) (.int 88)) (by decide +kernel)
  · exact hn (Cond.eq (.elem (.field (Term.string "MacroReckoner" 145) "java/lang/String" "value" "[B") (.int 7)) (.int 115)) (by decide +kernel)
  · exact hn (Cond.eq (.elem (.field (Term.string "MacroReckoner" 145) "java/lang/String" "value" "[B") (.int 8)) (.int 120)) (by decide +kernel)
theorem st_e2 {args : Array Value} {s : State} (hn : ∀ c ∈ flatC (Jvm.Cond.and given_1 narrow_1), c.before args s = true) : ∀ j : Nat, j < 11 → (Cond.eq (.elem (.field (Term.string "MacroReckoner" 147) "java/lang/String" "value" "[B") (.int (Int32.ofNat j))) (.int ((stB.getD 2 []).getD j 0))).before args s = true := by
  intro j hj
  rcases (show j = 0 ∨ j = 1 ∨ j = 2 ∨ j = 3 ∨ j = 4 ∨ j = 5 ∨ j = 6 ∨ j = 7 ∨ j = 8 ∨ j = 9 ∨ j = 10 by omega) with rfl | rfl | rfl | rfl | rfl | rfl | rfl | rfl | rfl | rfl | rfl
  · exact hn (Cond.eq (.elem (.field (Term.string "MacroReckoner" 147) "java/lang/String" "value" "[B") (.int 0)) (.int 43)) (by decide +kernel)
  · exact hn (Cond.eq (.elem (.field (Term.string "MacroReckoner" 147) "java/lang/String" "value" "[B") (.int 1)) (.int 45)) (by decide +kernel)
  · exact hn (Cond.eq (.elem (.field (Term.string "MacroReckoner" 147) "java/lang/String" "value" "[B") (.int 2)) (.int 42)) (by decide +kernel)
  · exact hn (Cond.eq (.elem (.field (Term.string "MacroReckoner" 147) "java/lang/String" "value" "[B") (.int 3)) (.int 47)) (by decide +kernel)
  · exact hn (Cond.eq (.elem (.field (Term.string "MacroReckoner" 147) "java/lang/String" "value" "[B") (.int 4)) (.int 37)) (by decide +kernel)
  · exact hn (Cond.eq (.elem (.field (Term.string "MacroReckoner" 147) "java/lang/String" "value" "[B") (.int 5)) (.int 94)) (by decide +kernel)
  · exact hn (Cond.eq (.elem (.field (Term.string "MacroReckoner" 147) "java/lang/String" "value" "[B") (.int 6)) (.int 118)) (by decide +kernel)
  · exact hn (Cond.eq (.elem (.field (Term.string "MacroReckoner" 147) "java/lang/String" "value" "[B") (.int 7)) (.int 107)) (by decide +kernel)
  · exact hn (Cond.eq (.elem (.field (Term.string "MacroReckoner" 147) "java/lang/String" "value" "[B") (.int 8)) (.int 60)) (by decide +kernel)
  · exact hn (Cond.eq (.elem (.field (Term.string "MacroReckoner" 147) "java/lang/String" "value" "[B") (.int 9)) (.int 62)) (by decide +kernel)
  · exact hn (Cond.eq (.elem (.field (Term.string "MacroReckoner" 147) "java/lang/String" "value" "[B") (.int 10)) (.int 61)) (by decide +kernel)
theorem st_el {args : Array Value} {s : State} (hn : ∀ c ∈ flatC (Jvm.Cond.and given_1 narrow_1), c.before args s = true) : ∀ i : Nat, i < 3 → ∀ j : Nat, j < stL.getD i 0 → (Cond.eq (.elem (.field (stT i) "java/lang/String" "value" "[B") (.int (Int32.ofNat j))) (.int ((stB.getD i []).getD j 0))).before args s = true := by
  intro i hi
  rcases (show i = 0 ∨ i = 1 ∨ i = 2 by omega) with rfl | rfl | rfl
  · exact st_e0 hn
  · exact st_e1 hn
  · exact st_e2 hn
theorem st_ne {args : Array Value} {s : State} (hn : ∀ c ∈ flatC (Jvm.Cond.and given_1 narrow_1), c.before args s = true) : ∀ i j : Nat, i < 3 → j < 3 → i ≠ j → (Cond.not (Cond.eq (stT i) (stT j))).before args s = true ∨ (Cond.not (Cond.eq (stT j) (stT i))).before args s = true := by
  intro i j hi hj hij
  rcases (show i = 0 ∨ i = 1 ∨ i = 2 by omega) with rfl | rfl | rfl <;> rcases (show j = 0 ∨ j = 1 ∨ j = 2 by omega) with rfl | rfl | rfl
  · exact absurd rfl hij
  · exact Or.inl (hn (Cond.not (Cond.eq (Term.string "MacroReckoner" 137) (Term.string "MacroReckoner" 145))) (by decide +kernel))
  · exact Or.inl (hn (Cond.not (Cond.eq (Term.string "MacroReckoner" 137) (Term.string "MacroReckoner" 147))) (by decide +kernel))
  · exact Or.inr (hn (Cond.not (Cond.eq (Term.string "MacroReckoner" 137) (Term.string "MacroReckoner" 145))) (by decide +kernel))
  · exact absurd rfl hij
  · exact Or.inl (hn (Cond.not (Cond.eq (Term.string "MacroReckoner" 145) (Term.string "MacroReckoner" 147))) (by decide +kernel))
  · exact Or.inr (hn (Cond.not (Cond.eq (Term.string "MacroReckoner" 137) (Term.string "MacroReckoner" 147))) (by decide +kernel))
  · exact Or.inr (hn (Cond.not (Cond.eq (Term.string "MacroReckoner" 145) (Term.string "MacroReckoner" 147))) (by decide +kernel))
  · exact absurd rfl hij
theorem XS_0 {args : Array Value} {s : State} {A : Nat → Prop} (hts : ∀ w ∈ lw_tbl, w.before args s = true) (hn : ∀ c ∈ flatC (Jvm.Cond.and given_1 narrow_1), c.before args s = true) (hA : ∀ a : Nat, a < s.heap.size → ¬ A a) : ∃ ad : Nat → Nat, XS ad A s s.heap := by
  obtain ⟨aK, aV, h1, h2⟩ := vk_Sof (N := 3) (tm := stT) (len := stL) (byt := stB) (A := A) (fun i hi => by rcases (show i = 0 ∨ i = 1 ∨ i = 2 by omega) with rfl | rfl | rfl <;> decide) (st_ex hn) (st_co hn) (st_ar hn) (st_le hn) (st_el hn) (st_ne hn) hA
  have e1 : ∀ i : Nat, i < 3 → (if i < 3 then aK i else aV (i - 3)) = aK i := fun i hi => if_pos hi
  have e2 : ∀ i : Nat, (if 3 + i < 3 then aK (3 + i) else aV (3 + i - 3)) = aV i := fun i => by rw [if_neg (by omega), show 3 + i - 3 = i by omega]
  refine ⟨fun i => if i < 3 then aK i else aV (i - 3), va_Zof (hts _ (List.mem_append_right _ (List.mem_append_right _ (List.mem_append_left _ (List.mem_of_getElem? (i := 162) rfl))))) (hts _ (List.mem_append_right _ (List.mem_append_left _ (List.mem_of_getElem? (i := 14) rfl)))) (va_eqi (hn _ (by decide +kernel))) hA, ⟨fun i hi => ?_, fun i j hi hj h => ?_⟩, vk_R.of (hts _ (List.mem_append_right _ (List.mem_append_right _ (List.mem_append_left _ (List.mem_of_getElem? (i := 148) rfl))))) (h2 0 (by decide)), vk_R.of (hts _ (List.mem_append_right _ (List.mem_append_right _ (List.mem_append_left _ (List.mem_of_getElem? (i := 235) rfl))))) (h2 1 (by decide)), vk_R.of (hts _ (List.mem_append_right _ (List.mem_append_right _ (List.mem_append_left _ (List.mem_of_getElem? (i := 236) rfl))))) (h2 2 (by decide))⟩
  · dsimp only
    rw [e1 i hi, e2 i]
    exact h1.1 i hi
  · dsimp only at h
    rw [e1 i hi, e1 j hj] at h
    exact h1.2 i j hi hj h
