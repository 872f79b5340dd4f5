/-! the three strings of the class, and how one is searched -/
def stL : List Nat := [10, 9, 11]
def stB : List (List Int32) := [[43, 45, 42, 47, 37, 94, 114, 60, 62, 61], [118, 100, 107, 112, 110, 90, 88, 115, 120], [43, 45, 42, 47, 37, 94, 118, 107, 60, 62, 61]]
def sL (i : Nat) : Int := ((stL.getD i 0 : Nat) : Int)
def sB (i : Nat) (z : Int) : Int := ((stB.getD i []).getD z.toNat 0).toInt
def inS (i : Nat) (ch : Int) : Prop := ∃ t, 0 ≤ t ∧ t < sL i ∧ sB i t = ch
def XS (ad : Nat → Nat) : XT := fun A U H => va_Z "java/lang/String" "COMPACT_STRINGS" "Z" (.int 1) A U H ∧ vk_S 3 stL stB ad (fun i => ad (3 + i)) A U H ∧ vk_R "MacroReckoner" 137 "+-*/%^r<>=" (ad 0) U ∧ vk_R "MacroReckoner" 145 "vdkpnZXsx" (ad 1) U ∧ vk_R "MacroReckoner" 147 "+-*/%^vk<>=" (ad 2) U
theorem XS_ok (ad : Nat → Nat) : XOK (XS ad) := by
  refine ⟨fun A B U H h hAB => ?_, fun A U H H1 h hq => ?_, fun A u U H hW h => ?_, fun A u U H hv h => ?_⟩
  · exact ⟨h.1.narrow hAB, h.2.1.narrow hAB, h.2.2⟩
  · exact ⟨h.1.kept hq, h.2.1.kept hq, h.2.2⟩
  · exact ⟨h.1.moved hW.alike, h.2.1.moved hW.alike, h.2.2.1.warm hW, h.2.2.2.1.warm hW, h.2.2.2.2.warm hW⟩
  · have ha : u.vm.Alike U.vm := hv ▸ Vm.Alike.refl u.vm
    exact ⟨h.1.moved ha, h.2.1.moved ha, h.2.2.1.same hv.symm, h.2.2.2.1.same hv.symm, h.2.2.2.2.same hv.symm⟩
theorem i3 {i : Nat} (h : i < 3) : i = 0 ∨ i = 1 ∨ i = 2 := by omega
theorem sL_b {i : Nat} (h : i < 3) : 0 ≤ sL i ∧ sL i ≤ 11 ∧ 9 ≤ sL i := by
  rcases i3 h with rfl | rfl | rfl <;> decide
theorem sB_b {i : Nat} {z : Int} (h : i < 3) : 0 ≤ sB i z ∧ sB i z ≤ 127 := by
  have key : ∀ (l : List Int32), (∀ x ∈ l, 0 ≤ x.toInt ∧ x.toInt ≤ 127) → ∀ n : Nat, 0 ≤ (l.getD n 0).toInt ∧ (l.getD n 0).toInt ≤ 127 := by
    intro l hl n
    rw [List.getD_eq_getElem?_getD]
    cases q : l[n]? with
    | none => exact ⟨by decide, by decide⟩
    | some x => exact hl x (List.mem_of_getElem? q)
  unfold sB
  rcases i3 h with rfl | rfl | rfl
  · exact key _ (by decide) _
  · exact key _ (by decide) _
  · exact key _ (by decide) _
theorem sB_vp {i : Nat} {z : Int} (h : i < 3) (h0 : 0 ≤ z) (h1 : z < sL i) : vp_in (iI z) (stL.getD i 0) := iI_vp h0 h1 (by rcases i3 h with rfl | rfl | rfl <;> decide)
theorem sB_at {i : Nat} {z : Int} (h0 : 0 ≤ z) (h1 : z ≤ 2147483647) : (fun j : Nat => Value.int ((stB.getD i []).getD j 0)) (iI z).toNatClampNeg = .int (iI (sB i z)) := by
  show Value.int ((stB.getD i []).getD (iI z).toNatClampNeg 0) = _
  rw [iI_cl h0 h1]
  unfold sB iI
  rw [Int32.ofInt_toInt]
/-- a byte's number -/
def bI (z : Int) : Int := if z < 128 then z else z - 256
theorem bI_i {z : Int} (h0 : 0 ≤ z) (h1 : z ≤ 127) : bI z = z := if_pos (by omega)
theorem bI_c {z x : Int} (hz : 0 ≤ z ∧ z ≤ 255) (hx : 0 ≤ x ∧ x ≤ 127) (h : x = bI z) : x = z := by
  unfold bI at h
  split at h <;> omega
section ST4
variable {p : Program} {l : Launch} {e : Env} {R : Room} {s : State} {m : MethodId} {args : Array Value} {below : List Frame} {meth : Method} {c : Code} {H : Heap} {locs : List Loc} {cells slots : Nat} {Q : State → Prop} {cc : ByteArray} {pc : Nat} {ls : Array Slot} {rest : List Value} {D : va_G} {cl : List vw_C} {A : Nat → Prop} {tys : List (ClassId × FieldType)} {ws : va_W} {X : XT}
theorem iv_i2b (hx : p.tables.exec = Jvm.exec) (hb : c.code = cc) {z : Int} (d : decode cc pc = .ok (.i2b, 1)) (h0 : 0 ≤ z) (h1 : z ≤ 255) (k : W p l e R s m args below meth c H locs cells slots Q (F0 m (pc + 1) ls (.int (iI (bI z)) :: rest))) : W p l e R s m args below meth c H locs cells slots Q (F0 m pc ls (.int (iI z) :: rest)) :=
  lv_i2b hx hb d (by
    have h2 : bI z = z.bmod 256 := by unfold bI; split <;> (rw [Int.bmod_def]; split <;> omega)
    have h3 : -128 ≤ bI z ∧ bI z ≤ 127 := by unfold bI; split <;> omega
    apply Int32.toInt_inj.mp
    rw [Int8.toInt_toInt32, Int32.toInt_toInt8, iI_toInt ⟨by omega, by omega⟩, iI_toInt ⟨by omega, by omega⟩, h2]) k
theorem iv_ishr0 (hx : p.tables.exec = Jvm.exec) (hb : c.code = cc) {z : Int} (d : decode cc pc = .ok (.ishr, 1)) (k : W p l e R s m args below meth c H locs cells slots Q (F0 m (pc + 1) ls (.int (iI z) :: rest))) : W p l e R s m args below meth c H locs cells slots Q (F0 m pc ls (.int (iI 0) :: .int (iI z) :: rest)) := by
  refine lv_ishr hx hb d ?_
  have e : iI z >>> (iI 0 &&& 31) = iI z := by
    show iI z >>> (0 : Int32) = iI z
    exact Int32.shiftRight_zero
  rw [e]
  exact k
theorem preK (hK : va_K D cl tys s) (hP : va_P D cl ws H) (hD : va_D A ws) (hS : va_S A s.heap H locs) (hA : ∀ q, s.heap.size ≤ q → A q) (hXO : XOK X) (hX : X A s s.heap) {b : Nat} {C : String} {As : List Value} (hr : ∃ cell : Cell, H[b]? = some cell ∧ cell.vm.isStatics = false ∧ s.vm.findClass C = some cell.cls) : PreV s H C b (PC D cl tys X (.ref b :: As) [] H.size) As :=
  ⟨PC_blind hXO, hr, PC_at hK hP hD hS hA hXO hX [] rfl rfl⟩
end ST4
abbrev yJl_canEncode_0 : MethodName := ⟨"java/lang/StringLatin1", "canEncode", "(I)Z"⟩
abbrev wsJl_canEncode_0 : List Cond := Cond.code yJl_canEncode_0 prog_16_method_4_code 1 (some .boolean) :: wg
abbrev yJl_indexOfChar_3 : MethodName := ⟨"java/lang/StringLatin1", "indexOfChar", "([BIII)I"⟩
abbrev wsJl_indexOfChar_3 : List Cond := Cond.code yJl_indexOfChar_3 prog_16_method_23_code 6 (some .int) :: wg
abbrev yJl_indexOf_3 : MethodName := ⟨"java/lang/StringLatin1", "indexOf", "([BIII)I"⟩
abbrev wsJl_indexOf_3 : List Cond := Cond.code yJl_indexOf_3 prog_16_method_22_code 4 (some .int) :: wg
abbrev yJs_coder_0 : MethodName := ⟨"java/lang/String", "coder", "()B"⟩
abbrev wsJs_coder_0 : List Cond := Cond.code yJs_coder_0 prog_15_method_152_code 1 (some .byte) :: wg
abbrev yJs_length_0 : MethodName := ⟨"java/lang/String", "length", "()I"⟩
abbrev wsJs_length_0 : List Cond := Cond.code yJs_length_0 prog_15_method_54_code 1 (some .int) :: wg
abbrev yJs_isLatin1_0 : MethodName := ⟨"java/lang/String", "isLatin1", "()Z"⟩
abbrev wsJs_isLatin1_0 : List Cond := Cond.code yJs_isLatin1_0 prog_15_method_154_code 1 (some .boolean) :: wg
abbrev yJs_indexOf_2 : MethodName := ⟨"java/lang/String", "indexOf", "(II)I"⟩
abbrev wsJs_indexOf_2 : List Cond := Cond.code yJs_indexOf_2 prog_15_method_80_code 3 (some .int) :: wg
abbrev yJs_indexOf_0 : MethodName := ⟨"java/lang/String", "indexOf", "(I)I"⟩
abbrev wsJs_indexOf_0 : List Cond := Cond.code yJs_indexOf_0 prog_15_method_79_code 2 (some .int) :: wg

theorem dJl_canEncode_0_0 : decode prog_16_method_4_code 0 = .ok (.iload_n 0, 1) := by decide +kernel
theorem dJl_canEncode_0_1 : decode prog_16_method_4_code 1 = .ok (.ifCond .lt 14, 3) := by decide +kernel
theorem dJl_canEncode_0_4 : decode prog_16_method_4_code 4 = .ok (.iload_n 0, 1) := by decide +kernel
theorem dJl_canEncode_0_5 : decode prog_16_method_4_code 5 = .ok (.sipush 255, 3) := by decide +kernel
theorem dJl_canEncode_0_8 : decode prog_16_method_4_code 8 = .ok (.if_icmp .gt 7, 3) := by decide +kernel
theorem dJl_canEncode_0_11 : decode prog_16_method_4_code 11 = .ok (.iconst 1, 1) := by decide +kernel
theorem dJl_canEncode_0_12 : decode prog_16_method_4_code 12 = .ok (.goto 4, 3) := by decide +kernel
theorem dJl_canEncode_0_15 : decode prog_16_method_4_code 15 = .ok (.iconst 0, 1) := by decide +kernel
theorem dJl_canEncode_0_16 : decode prog_16_method_4_code 16 = .ok (.ireturn, 1) := by decide +kernel
abbrev qJl_canEncode_0 (dC : Nat → ClassId) (dI : Nat → Nat → Nat) (dA : Nat → ClassId) (ch : Int) (A : Nat → Prop) : Array Value → State → Outcome → State → Prop := QI (dC, dI) vwCl (tyA dA) (fun (r : Int) (v_ : Unit) => (r = 1 ∧ ch ≤ 255) ∨ (r = 0 ∧ 255 < ch)) (fun (v_ : Unit) => ([] : va_W)) A
abbrev rmJl_canEncode_0 : Room := { frames := 0, cells := 0, slots := 0, locals := 0 }
set_option maxRecDepth 100000 in
set_option maxHeartbeats 1000000 in
theorem cJl_canEncode_0 (l : Launch) (dC : Nat → ClassId) (dI : Nat → Nat → Nat) (dA : Nat → ClassId) (ch : Int) (hch : 0 ≤ ch ∧ ch < 65536) (sz : Nat) : Met l yJl_canEncode_0 wsJl_canEncode_0 rmJl_canEncode_0 (PC (dC, dI) vwCl (tyA dA) XN [.int (iI ch)] (([] : va_W)) sz) (qJl_canEncode_0 dC dI dA ch (va_A (([] : va_W)) sz)) 0 0 (va_A (([] : va_W)) sz) := by
  refine met_ofF (cc := prog_16_method_4_code) (maxL := 1) (ret := (some .boolean)) (Qc := qJl_canEncode_0 dC dI dA ch) XN_ok (by decide +kernel) rfl (Nat.le_of_ble_eq_true rfl) ?_
  intro p e s m below meth c ls A hx hb hr hml hown hts hlocks hnm hK hP hD hA hX hS hl
  have hl : lv_has ls 1 [(0, .int (iI ch))] := hl
  have hown : s.vm.findClass "java/lang/StringLatin1" = some m.cls := hown
  obtain ⟨H, hH⟩ : ∃ H : Heap, H = s.heap := ⟨_, rfl⟩
  obtain ⟨locs, hlo⟩ : ∃ L : List Loc, L = [] := ⟨_, rfl⟩
  have hP : va_P (dC, dI) vwCl (([] : va_W)) H := hH ▸ hP
  have hS : va_S A s.heap H locs := by rw [hH, hlo]; exact hS
  suffices hgo : W p l e rmJl_canEncode_0 s m [.int (iI ch)].toArray below meth c H locs 0 0 (MQ below (qJl_canEncode_0 dC dI dA ch A) [.int (iI ch)].toArray s 0 0 A) (F0 m 0 ls []) by rw [hH, hlo] at hgo; exact hgo
  clear hH hlo
  refine lv_iload_n hx hb dJl_canEncode_0_0 rfl (lv_at hl 0 rfl) ?_
  refine iv_if_lt (tgt := 15) hx hb dJl_canEncode_0_1 (by decide) ⟨by omega, by omega⟩ (fun hc1 => ?_) (fun hc1 => ?_)
  · refine lv_iconst (v := iI 0) hx hb dJl_canEncode_0_15 rfl ?_
    exact rt_z hx hb hr hlocks hK hS dJl_canEncode_0_16 (nrw_bool (by omega)) () hP hD (show (0 = 1 ∧ ch ≤ 255) ∨ (0 = 0 ∧ 255 < ch) from by omega)
  · refine lv_iload_n hx hb dJl_canEncode_0_4 rfl (lv_at hl 0 rfl) ?_
    refine lv_sipush (v := iI 255) hx hb dJl_canEncode_0_5 (by decide) ?_
    refine iv_icmp_gt (tgt := 15) hx hb dJl_canEncode_0_8 (by decide) ⟨by omega, by omega⟩ ⟨by decide, by decide⟩ (fun hc8 => ?_) (fun hc8 => ?_)
    · refine lv_iconst (v := iI 0) hx hb dJl_canEncode_0_15 rfl ?_
      exact rt_z hx hb hr hlocks hK hS dJl_canEncode_0_16 (nrw_bool (by omega)) () hP hD (show (0 = 1 ∧ ch ≤ 255) ∨ (0 = 0 ∧ 255 < ch) from by omega)
    · refine lv_iconst (v := iI 1) hx hb dJl_canEncode_0_11 rfl ?_
      refine lv_goto (tgt := 16) hx hb dJl_canEncode_0_12 (by decide) ?_
      exact rt_z hx hb hr hlocks hK hS dJl_canEncode_0_16 (nrw_bool (by omega)) () hP hD (show (1 = 1 ∧ ch ≤ 255) ∨ (1 = 0 ∧ 255 < ch) from by omega)

theorem dJl_indexOfChar_3_0 : decode prog_16_method_23_code 0 = .ok (.iload_n 1, 1) := by decide +kernel
theorem dJl_indexOfChar_3_1 : decode prog_16_method_23_code 1 = .ok (.i2b, 1) := by decide +kernel
theorem dJl_indexOfChar_3_2 : decode prog_16_method_23_code 2 = .ok (.istore 4, 2) := by decide +kernel
theorem dJl_indexOfChar_3_4 : decode prog_16_method_23_code 4 = .ok (.iload_n 2, 1) := by decide +kernel
theorem dJl_indexOfChar_3_5 : decode prog_16_method_23_code 5 = .ok (.istore 5, 2) := by decide +kernel
theorem dJl_indexOfChar_3_7 : decode prog_16_method_23_code 7 = .ok (.iload 5, 2) := by decide +kernel
theorem dJl_indexOfChar_3_9 : decode prog_16_method_23_code 9 = .ok (.iload_n 3, 1) := by decide +kernel
theorem dJl_indexOfChar_3_10 : decode prog_16_method_23_code 10 = .ok (.if_icmp .ge 21, 3) := by decide +kernel
theorem dJl_indexOfChar_3_13 : decode prog_16_method_23_code 13 = .ok (.aload_n 0, 1) := by decide +kernel
theorem dJl_indexOfChar_3_14 : decode prog_16_method_23_code 14 = .ok (.iload 5, 2) := by decide +kernel
theorem dJl_indexOfChar_3_16 : decode prog_16_method_23_code 16 = .ok (.baload, 1) := by decide +kernel
theorem dJl_indexOfChar_3_17 : decode prog_16_method_23_code 17 = .ok (.iload 4, 2) := by decide +kernel
theorem dJl_indexOfChar_3_19 : decode prog_16_method_23_code 19 = .ok (.if_icmp .ne 6, 3) := by decide +kernel
theorem dJl_indexOfChar_3_22 : decode prog_16_method_23_code 22 = .ok (.iload 5, 2) := by decide +kernel
theorem dJl_indexOfChar_3_24 : decode prog_16_method_23_code 24 = .ok (.ireturn, 1) := by decide +kernel
theorem dJl_indexOfChar_3_25 : decode prog_16_method_23_code 25 = .ok (.iinc 5 1, 3) := by decide +kernel
theorem dJl_indexOfChar_3_28 : decode prog_16_method_23_code 28 = .ok (.goto (-21), 3) := by decide +kernel
theorem dJl_indexOfChar_3_31 : decode prog_16_method_23_code 31 = .ok (.iconst (-1), 1) := by decide +kernel
theorem dJl_indexOfChar_3_32 : decode prog_16_method_23_code 32 = .ok (.ireturn, 1) := by decide +kernel
abbrev qJl_indexOfChar_3 (dC : Nat → ClassId) (dI : Nat → Nat → Nat) (dA : Nat → ClassId) (ad : Nat → Nat) (i : Nat) (ch : Int) (f0 : Int) (t0 : Int) (A : Nat → Prop) : Array Value → State → Outcome → State → Prop := QI (dC, dI) vwCl (tyA dA) (fun (r : Int) (v_ : Unit) => (0 ≤ r ∧ r ≤ 100 ∧ inS i ch) ∨ (r = -1 ∧ ¬ inS i ch)) (fun (v_ : Unit) => ([] : va_W)) A
abbrev rmJl_indexOfChar_3 : Room := { frames := 0, cells := 0, slots := 0, locals := 0 }
set_option maxRecDepth 100000 in
set_option maxHeartbeats 1000000 in
theorem cJl_indexOfChar_3 (l : Launch) (dC : Nat → ClassId) (dI : Nat → Nat → Nat) (dA : Nat → ClassId) (ad : Nat → Nat) (i : Nat) (ch : Int) (f0 : Int) (t0 : Int) (hi : i < 3) (hch : 0 ≤ ch ∧ ch ≤ 255) (hf : f0 = 0 ∧ t0 = sL i) (sz : Nat) : Met l yJl_indexOfChar_3 wsJl_indexOfChar_3 rmJl_indexOfChar_3 (PC (dC, dI) vwCl (tyA dA) (XS ad) [.ref (ad (3 + i)), .int (iI ch), .int (iI f0), .int (iI t0)] (([] : va_W)) sz) (qJl_indexOfChar_3 dC dI dA ad i ch f0 t0 (va_A (([] : va_W)) sz)) 0 0 (va_A (([] : va_W)) sz) := by
  refine met_ofF (cc := prog_16_method_23_code) (maxL := 6) (ret := (some .int)) (Qc := qJl_indexOfChar_3 dC dI dA ad i ch f0 t0) (XS_ok ad) (by decide +kernel) rfl (Nat.le_of_ble_eq_true rfl) ?_
  intro p e s m below meth c ls A hx hb hr hml hown hts hlocks hnm hK hP hD hA hX hS hl
  have hl : lv_has ls 6 [(0, .ref (ad (3 + i))), (1, .int (iI ch)), (2, .int (iI f0)), (3, .int (iI t0))] := hl
  have hown : s.vm.findClass "java/lang/StringLatin1" = some m.cls := hown
  obtain ⟨H, hH⟩ : ∃ H : Heap, H = s.heap := ⟨_, rfl⟩
  obtain ⟨locs, hlo⟩ : ∃ L : List Loc, L = [] := ⟨_, rfl⟩
  have hP : va_P (dC, dI) vwCl (([] : va_W)) H := hH ▸ hP
  have hS : va_S A s.heap H locs := by rw [hH, hlo]; exact hS
  suffices hgo : W p l e rmJl_indexOfChar_3 s m [.ref (ad (3 + i)), .int (iI ch), .int (iI f0), .int (iI t0)].toArray below meth c H locs 0 0 (MQ below (qJl_indexOfChar_3 dC dI dA ad i ch f0 t0 A) [.ref (ad (3 + i)), .int (iI ch), .int (iI f0), .int (iI t0)].toArray s 0 0 A) (F0 m 0 ls []) by rw [hH, hlo] at hgo; exact hgo
  clear hH hlo
  have hl9 := sL_b hi
  refine lv_iload_n hx hb dJl_indexOfChar_3_0 rfl (lv_at hl 1 rfl) ?_
  refine iv_i2b hx hb dJl_indexOfChar_3_1 (by omega) (by omega) ?_
  refine lv_istore (lv' := [(4, .int (iI (bI ch))), (0, .ref (ad (3 + i))), (1, .int (iI ch)), (2, .int (iI f0)), (3, .int (iI t0))]) hx hb dJl_indexOfChar_3_2 hl (by decide) rfl (fun ls hl => ?_)
  obtain ⟨b9, e_b9⟩ : ∃ z : Int, z = bI ch := ⟨_, rfl⟩
  have hl : lv_has ls 6 [(4, .int (iI b9)), (0, .ref (ad (3 + i))), (1, .int (iI ch)), (2, .int (iI f0)), (3, .int (iI t0))] := by rw [e_b9]; exact hl
  refine lv_iload_n hx hb dJl_indexOfChar_3_4 rfl (lv_at hl 3 rfl) ?_
  refine lv_istore (lv' := [(5, .int (iI f0)), (4, .int (iI b9)), (0, .ref (ad (3 + i))), (1, .int (iI ch)), (2, .int (iI f0)), (3, .int (iI t0))]) hx hb dJl_indexOfChar_3_5 hl (by decide) rfl (fun ls hl => ?_)
  have L7 : ∀ (n : Nat) (j9 : Int) (H : Heap) (locs : List Loc) (ls : Array Slot), (0 ≤ j9 ∧ j9 ≤ sL i) → (∀ t, 0 ≤ t → t < j9 → sB i t ≠ ch) → (sL i - j9).toNat < n → va_P (dC, dI) vwCl (([] : va_W)) H → va_D A (([] : va_W)) → va_S A s.heap H locs → lv_has ls 6 [(5, .int (iI j9)), (4, .int (iI b9)), (0, .ref (ad (3 + i))), (1, .int (iI ch)), (2, .int (iI f0)), (3, .int (iI t0))] → W p l e rmJl_indexOfChar_3 s m [.ref (ad (3 + i)), .int (iI ch), .int (iI f0), .int (iI t0)].toArray below meth c H locs 0 0 (MQ below (qJl_indexOfChar_3 dC dI dA ad i ch f0 t0 A) [.ref (ad (3 + i)), .int (iI ch), .int (iI f0), .int (iI t0)].toArray s 0 0 A) (F0 m 7 ls []) := by
    intro n
    induction n with
    | zero => intro j9 H locs ls hj hno hn; omega
    | succ n ih =>
      intro j9 H locs ls hj hno hn hP hD hS hl
      have ih7 := ih
      refine lv_iload hx hb dJl_indexOfChar_3_7 (lv_at hl 0 rfl) ?_
      refine lv_iload_n hx hb dJl_indexOfChar_3_9 rfl (lv_at hl 5 rfl) ?_
      refine iv_icmp_ge (tgt := 31) hx hb dJl_indexOfChar_3_10 (by decide) ⟨by omega, by omega⟩ ⟨by omega, by omega⟩ (fun hc10 => ?_) (fun hc10 => ?_)
      · refine lv_iconst (v := iI (-1)) hx hb dJl_indexOfChar_3_31 rfl ?_
        exact rt_i hx hb hr hlocks hK hS dJl_indexOfChar_3_32 () hP hD (show (0 ≤ (-1) ∧ (-1) ≤ 100 ∧ inS i ch) ∨ ((-1) = -1 ∧ ¬ inS i ch) from by refine Or.inr ⟨rfl, fun ⟨t, x, y, z⟩ => hno t x (by omega) z⟩)
      · have hbb := sB_b (z := j9) hi
        have hbi : -128 ≤ b9 ∧ b9 ≤ 255 := by rw [e_b9]; unfold bI; split <;> omega
        refine lv_aload_n hx hb dJl_indexOfChar_3_13 rfl (lv_at hl 2 rfl) ?_
        refine lv_iload hx hb dJl_indexOfChar_3_14 (lv_at hl 0 rfl) ?_
        refine va_tb (v := .int (iI (sB i j9))) hx hb (hX.2.1.1 i hi).2.2.2 hS (sB_vp hi (by omega) (by omega)) (sB_at (by omega) (by omega)) dJl_indexOfChar_3_16 ?_
        refine lv_iload hx hb dJl_indexOfChar_3_17 (lv_at hl 1 rfl) ?_
        refine iv_icmp_ne (tgt := 25) hx hb dJl_indexOfChar_3_19 (by decide) ⟨by omega, by omega⟩ ⟨by omega, by omega⟩ (fun hc19 => ?_) (fun hc19 => ?_)
        · refine lv_iinc (k := 0) (lv' := [(5, .int (iI (j9 + 1))), (4, .int (iI b9)), (0, .ref (ad (3 + i))), (1, .int (iI ch)), (2, .int (iI f0)), (3, .int (iI t0))]) (v := iI (j9 + 1)) hx hb dJl_indexOfChar_3_25 hl rfl (iI_add _ _).symm (by decide) rfl (fun ls hl => ?_)
          refine lv_goto (tgt := 7) hx hb dJl_indexOfChar_3_28 (by decide) ?_
          exact ih7 (j9 + 1) H locs ls (by omega) (by intro t x y; rcases (show t < j9 ∨ t = j9 by omega) with z | z; exact hno t x z; rw [z]; intro w; apply hc19; rw [e_b9, w]; exact (bI_i (by rw [← w]; exact hbb.1) (by rw [← w]; exact hbb.2)).symm) (by omega) hP hD hS (lv_sub hl [0, 1, 2, 3, 4, 5] rfl)
        · refine lv_iload hx hb dJl_indexOfChar_3_22 (lv_at hl 0 rfl) ?_
          exact rt_i hx hb hr hlocks hK hS dJl_indexOfChar_3_24 () hP hD (show (0 ≤ j9 ∧ j9 ≤ 100 ∧ inS i ch) ∨ (j9 = -1 ∧ ¬ inS i ch) from by exact Or.inl ⟨by omega, by omega, j9, by omega, by omega, bI_c hch hbb (by rw [← e_b9]; exact hc19)⟩)
  exact L7 _ f0 H locs ls (by omega) (by intro t x y; omega) (Nat.lt_succ_self _) hP hD hS (lv_sub hl [0, 1, 2, 3, 4, 5] rfl)

theorem dJl_indexOf_3_0 : decode prog_16_method_22_code 0 = .ok (.iload_n 1, 1) := by decide +kernel
theorem dJl_indexOf_3_1 : decode prog_16_method_22_code 1 = .ok (.invokestatic 88, 3) := by decide +kernel
theorem dJl_indexOf_3_4 : decode prog_16_method_22_code 4 = .ok (.ifCond .ne 5, 3) := by decide +kernel
theorem dJl_indexOf_3_7 : decode prog_16_method_22_code 7 = .ok (.iconst (-1), 1) := by decide +kernel
theorem dJl_indexOf_3_8 : decode prog_16_method_22_code 8 = .ok (.ireturn, 1) := by decide +kernel
theorem dJl_indexOf_3_9 : decode prog_16_method_22_code 9 = .ok (.iload_n 2, 1) := by decide +kernel
theorem dJl_indexOf_3_10 : decode prog_16_method_22_code 10 = .ok (.iconst 0, 1) := by decide +kernel
theorem dJl_indexOf_3_11 : decode prog_16_method_22_code 11 = .ok (.invokestatic 92, 3) := by decide +kernel
theorem dJl_indexOf_3_14 : decode prog_16_method_22_code 14 = .ok (.istore_n 2, 1) := by decide +kernel
theorem dJl_indexOf_3_15 : decode prog_16_method_22_code 15 = .ok (.iload_n 3, 1) := by decide +kernel
theorem dJl_indexOf_3_16 : decode prog_16_method_22_code 16 = .ok (.aload_n 0, 1) := by decide +kernel
theorem dJl_indexOf_3_17 : decode prog_16_method_22_code 17 = .ok (.arraylength, 1) := by decide +kernel
theorem dJl_indexOf_3_18 : decode prog_16_method_22_code 18 = .ok (.invokestatic 38, 3) := by decide +kernel
theorem dJl_indexOf_3_21 : decode prog_16_method_22_code 21 = .ok (.istore_n 3, 1) := by decide +kernel
theorem dJl_indexOf_3_22 : decode prog_16_method_22_code 22 = .ok (.iload_n 2, 1) := by decide +kernel
theorem dJl_indexOf_3_23 : decode prog_16_method_22_code 23 = .ok (.iload_n 3, 1) := by decide +kernel
theorem dJl_indexOf_3_24 : decode prog_16_method_22_code 24 = .ok (.if_icmp .lt 5, 3) := by decide +kernel
theorem dJl_indexOf_3_27 : decode prog_16_method_22_code 27 = .ok (.iconst (-1), 1) := by decide +kernel
theorem dJl_indexOf_3_28 : decode prog_16_method_22_code 28 = .ok (.ireturn, 1) := by decide +kernel
theorem dJl_indexOf_3_29 : decode prog_16_method_22_code 29 = .ok (.aload_n 0, 1) := by decide +kernel
theorem dJl_indexOf_3_30 : decode prog_16_method_22_code 30 = .ok (.iload_n 1, 1) := by decide +kernel
theorem dJl_indexOf_3_31 : decode prog_16_method_22_code 31 = .ok (.iload_n 2, 1) := by decide +kernel
theorem dJl_indexOf_3_32 : decode prog_16_method_22_code 32 = .ok (.iload_n 3, 1) := by decide +kernel
theorem dJl_indexOf_3_33 : decode prog_16_method_22_code 33 = .ok (.invokestatic 95, 3) := by decide +kernel
theorem dJl_indexOf_3_36 : decode prog_16_method_22_code 36 = .ok (.ireturn, 1) := by decide +kernel
abbrev qJl_indexOf_3 (dC : Nat → ClassId) (dI : Nat → Nat → Nat) (dA : Nat → ClassId) (ad : Nat → Nat) (i : Nat) (ch : Int) (f0 : Int) (t0 : Int) (A : Nat → Prop) : Array Value → State → Outcome → State → Prop := QI (dC, dI) vwCl (tyA dA) (fun (r : Int) (v_ : Unit) => (0 ≤ r ∧ r ≤ 100 ∧ inS i ch) ∨ (r = -1 ∧ ¬ inS i ch)) (fun (v_ : Unit) => ([] : va_W)) A
abbrev rmJl_indexOf_3 : Room := { frames := 1, cells := 0, slots := 0, locals := 25 }
set_option maxRecDepth 100000 in
set_option maxHeartbeats 1000000 in
theorem cJl_indexOf_3 (l : Launch) (dC : Nat → ClassId) (dI : Nat → Nat → Nat) (dA : Nat → ClassId) (ad : Nat → Nat) (i : Nat) (ch : Int) (f0 : Int) (t0 : Int) (hi : i < 3) (hch : 0 ≤ ch ∧ ch < 65536) (hf : f0 = 0 ∧ t0 = sL i) (sz : Nat) : Met l yJl_indexOf_3 wsJl_indexOf_3 rmJl_indexOf_3 (PC (dC, dI) vwCl (tyA dA) (XS ad) [.ref (ad (3 + i)), .int (iI ch), .int (iI f0), .int (iI t0)] (([] : va_W)) sz) (qJl_indexOf_3 dC dI dA ad i ch f0 t0 (va_A (([] : va_W)) sz)) 0 0 (va_A (([] : va_W)) sz) := by
  refine met_ofF (cc := prog_16_method_22_code) (maxL := 4) (ret := (some .int)) (Qc := qJl_indexOf_3 dC dI dA ad i ch f0 t0) (XS_ok ad) (by decide +kernel) rfl (Nat.le_of_ble_eq_true rfl) ?_
  intro p e s m below meth c ls A hx hb hr hml hown hts hlocks hnm hK hP hD hA hX hS hl
  have hl : lv_has ls 4 [(0, .ref (ad (3 + i))), (1, .int (iI ch)), (2, .int (iI f0)), (3, .int (iI t0))] := hl
  have hown : s.vm.findClass "java/lang/StringLatin1" = some m.cls := hown
  obtain ⟨H, hH⟩ : ∃ H : Heap, H = s.heap := ⟨_, rfl⟩
  obtain ⟨locs, hlo⟩ : ∃ L : List Loc, L = [] := ⟨_, rfl⟩
  have hP : va_P (dC, dI) vwCl (([] : va_W)) H := hH ▸ hP
  have hS : va_S A s.heap H locs := by rw [hH, hlo]; exact hS
  suffices hgo : W p l e rmJl_indexOf_3 s m [.ref (ad (3 + i)), .int (iI ch), .int (iI f0), .int (iI t0)].toArray below meth c H locs 0 0 (MQ below (qJl_indexOf_3 dC dI dA ad i ch f0 t0 A) [.ref (ad (3 + i)), .int (iI ch), .int (iI f0), .int (iI t0)].toArray s 0 0 A) (F0 m 0 ls []) by rw [hH, hlo] at hgo; exact hgo
  clear hH hlo
  have hl9 := sL_b hi
  refine lv_iload_n hx hb dJl_indexOf_3_0 rfl (lv_at hl 1 rfl) ?_
  refine cv_i (va_runS (As := [.int (iI ch)]) (rest := []) ⟨hx, hb, hml, hown, hts⟩ (cJl_canEncode_0 l dC dI dA ch (by omega) H.size) (cwS 1 hts (gdS wt2_174 wt2_175 wt1_15 wt2_176) rfl rfl rfl ⟨rfl, by decide, by decide, by decide +kernel⟩ ⟨by decide, by decide⟩) (preS hK hP hD hS hA XN_ok trivial [] rfl rfl) rfl rfl hl.1 rfl (lv_room (Nat.le_of_ble_eq_true rfl)) dJl_indexOf_3_1 ⟨Nat.zero_le _, Nat.zero_le _⟩) hP hD hS hA [] [] rfl (fun v_ => ([] : va_W)) (fun _ => rfl) ([] : va_W) rfl (fun _ => rfl) [] rfl (fun _ => rfl) (fun _ => rfl) (fun r1 u_ H locs hq1 hP hD hS => ?_)
  have hP : va_P (dC, dI) vwCl (([] : va_W)) H := hP
  have hD : va_D A (([] : va_W)) := hD
  have hq1 : (r1 = 1 ∧ ch ≤ 255) ∨ (r1 = 0 ∧ 255 < ch) := hq1
  refine iv_if_ne (tgt := 9) hx hb dJl_indexOf_3_4 (by decide) ⟨by omega, by omega⟩ (fun hc4 => ?_) (fun hc4 => ?_)
  · refine lv_iload_n hx hb dJl_indexOf_3_9 rfl (lv_at hl 2 rfl) ?_
    refine lv_iconst (v := iI 0) hx hb dJl_indexOf_3_10 rfl ?_
    refine iv_mmax hx hb (hml.trans hl.1.symm) hown (hts _ wt2_177) (hts _ wt2_178) (hts _ wt1_16) (hts _ wt2_179) (by decide) (Nat.le_of_ble_eq_true rfl) (Nat.zero_le _) (Nat.zero_le _) dJl_indexOf_3_11 ⟨by omega, by omega⟩ ⟨by decide, by decide⟩ ?_
    refine lv_istore_n (lv' := [(2, .int (iI (max f0 0))), (0, .ref (ad (3 + i))), (1, .int (iI ch)), (3, .int (iI t0))]) hx hb dJl_indexOf_3_14 rfl hl (by decide) rfl (fun ls hl => ?_)
    refine lv_iload_n hx hb dJl_indexOf_3_15 rfl (lv_at hl 3 rfl) ?_
    refine lv_aload_n hx hb dJl_indexOf_3_16 rfl (lv_at hl 1 rfl) ?_
    refine va_tlen hx hb (hX.2.1.1 i hi).2.2.2 hS rfl dJl_indexOf_3_17 ?_
    refine W.eq (g2 := F0 m 18 ls [.int (iI (sL i)), .int (iI t0)]) rfl ?_
    refine iv_mmin hx hb (hml.trans hl.1.symm) hown (hts _ wt2_180) (hts _ wt2_181) (hts _ wt1_16) (hts _ wt2_182) (by decide) (Nat.le_of_ble_eq_true rfl) (Nat.zero_le _) (Nat.zero_le _) dJl_indexOf_3_18 ⟨by omega, by omega⟩ ⟨by omega, by omega⟩ ?_
    refine lv_istore_n (lv' := [(3, .int (iI (min t0 (sL i)))), (2, .int (iI (max f0 0))), (0, .ref (ad (3 + i))), (1, .int (iI ch))]) hx hb dJl_indexOf_3_21 rfl hl (by decide) rfl (fun ls hl => ?_)
    refine lv_iload_n hx hb dJl_indexOf_3_22 rfl (lv_at hl 1 rfl) ?_
    refine lv_iload_n hx hb dJl_indexOf_3_23 rfl (lv_at hl 0 rfl) ?_
    refine iv_icmp_lt (tgt := 29) hx hb dJl_indexOf_3_24 (by decide) ⟨by omega, by omega⟩ ⟨by omega, by omega⟩ (fun hc24 => ?_) (fun hc24 => absurd hc24 (by omega))
    refine lv_aload_n hx hb dJl_indexOf_3_29 rfl (lv_at hl 2 rfl) ?_
    refine lv_iload_n hx hb dJl_indexOf_3_30 rfl (lv_at hl 3 rfl) ?_
    refine lv_iload_n hx hb dJl_indexOf_3_31 rfl (lv_at hl 1 rfl) ?_
    refine lv_iload_n hx hb dJl_indexOf_3_32 rfl (lv_at hl 0 rfl) ?_
    refine cv_i (va_runS (As := [.ref (ad (3 + i)), .int (iI ch), .int (iI (max f0 0)), .int (iI (min t0 (sL i)))]) (rest := []) ⟨hx, hb, hml, hown, hts⟩ (cJl_indexOfChar_3 l dC dI dA ad i ch (max f0 0) (min t0 (sL i)) (by exact hi) (by omega) (by omega) H.size) (cwS 4 hts (gdS wt2_183 wt2_184 wt1_15 wt2_185) rfl rfl rfl ⟨rfl, by decide, by decide, by decide +kernel⟩ ⟨by decide, by decide⟩) (preS hK hP hD hS hA (XS_ok ad) hX [] rfl rfl) rfl rfl hl.1 rfl (lv_room (Nat.le_of_ble_eq_true rfl)) dJl_indexOf_3_33 ⟨Nat.zero_le _, Nat.zero_le _⟩) hP hD hS hA [] [] rfl (fun v_ => ([] : va_W)) (fun _ => rfl) ([] : va_W) rfl (fun _ => rfl) [] rfl (fun _ => rfl) (fun _ => rfl) (fun r33 u_ H locs hq33 hP hD hS => ?_)
    have hP : va_P (dC, dI) vwCl (([] : va_W)) H := hP
    have hD : va_D A (([] : va_W)) := hD
    have hq33 : (0 ≤ r33 ∧ r33 ≤ 100 ∧ inS i ch) ∨ (r33 = -1 ∧ ¬ inS i ch) := hq33
    exact rt_i hx hb hr hlocks hK hS dJl_indexOf_3_36 () hP hD (show (0 ≤ r33 ∧ r33 ≤ 100 ∧ inS i ch) ∨ (r33 = -1 ∧ ¬ inS i ch) from by exact hq33)
  · refine lv_iconst (v := iI (-1)) hx hb dJl_indexOf_3_7 rfl ?_
    exact rt_i hx hb hr hlocks hK hS dJl_indexOf_3_8 () hP hD (show (0 ≤ (-1) ∧ (-1) ≤ 100 ∧ inS i ch) ∨ ((-1) = -1 ∧ ¬ inS i ch) from by refine Or.inr ⟨rfl, fun ⟨t, x, y, z⟩ => ?_⟩; have h := sB_b (z := t) hi; omega)

theorem dJs_coder_0_0 : decode prog_15_method_152_code 0 = .ok (.getstatic 38, 3) := by decide +kernel
theorem dJs_coder_0_3 : decode prog_15_method_152_code 3 = .ok (.ifCond .eq 10, 3) := by decide +kernel
theorem dJs_coder_0_6 : decode prog_15_method_152_code 6 = .ok (.aload_n 0, 1) := by decide +kernel
theorem dJs_coder_0_7 : decode prog_15_method_152_code 7 = .ok (.getfield 15, 3) := by decide +kernel
theorem dJs_coder_0_10 : decode prog_15_method_152_code 10 = .ok (.goto 4, 3) := by decide +kernel
theorem dJs_coder_0_13 : decode prog_15_method_152_code 13 = .ok (.iconst 1, 1) := by decide +kernel
theorem dJs_coder_0_14 : decode prog_15_method_152_code 14 = .ok (.ireturn, 1) := by decide +kernel
abbrev qJs_coder_0 (dC : Nat → ClassId) (dI : Nat → Nat → Nat) (dA : Nat → ClassId) (ad : Nat → Nat) (i : Nat) (A : Nat → Prop) : Array Value → State → Outcome → State → Prop := QI (dC, dI) vwCl (tyA dA) (fun (r : Int) (v_ : Unit) => r = 0) (fun (v_ : Unit) => ([] : va_W)) A
abbrev rmJs_coder_0 : Room := { frames := 0, cells := 0, slots := 0, locals := 0 }
set_option maxRecDepth 100000 in
set_option maxHeartbeats 1000000 in
theorem cJs_coder_0 (l : Launch) (dC : Nat → ClassId) (dI : Nat → Nat → Nat) (dA : Nat → ClassId) (ad : Nat → Nat) (i : Nat) (hi : i < 3) (sz : Nat) : Met l yJs_coder_0 wsJs_coder_0 rmJs_coder_0 (PC (dC, dI) vwCl (tyA dA) (XS ad) [.ref (ad i)] (([] : va_W)) sz) (qJs_coder_0 dC dI dA ad i (va_A (([] : va_W)) sz)) 0 0 (va_A (([] : va_W)) sz) := by
  refine met_ofF (cc := prog_15_method_152_code) (maxL := 1) (ret := (some .byte)) (Qc := qJs_coder_0 dC dI dA ad i) (XS_ok ad) (by decide +kernel) rfl (Nat.le_of_ble_eq_true rfl) ?_
  intro p e s m below meth c ls A hx hb hr hml hown hts hlocks hnm hK hP hD hA hX hS hl
  have hl : lv_has ls 1 [(0, .ref (ad i))] := hl
  have hown : s.vm.findClass "java/lang/String" = some m.cls := hown
  obtain ⟨H, hH⟩ : ∃ H : Heap, H = s.heap := ⟨_, rfl⟩
  obtain ⟨locs, hlo⟩ : ∃ L : List Loc, L = [] := ⟨_, rfl⟩
  have hP : va_P (dC, dI) vwCl (([] : va_W)) H := hH ▸ hP
  have hS : va_S A s.heap H locs := by rw [hH, hlo]; exact hS
  suffices hgo : W p l e rmJs_coder_0 s m [.ref (ad i)].toArray below meth c H locs 0 0 (MQ below (qJs_coder_0 dC dI dA ad i A) [.ref (ad i)].toArray s 0 0 A) (F0 m 0 ls []) by rw [hH, hlo] at hgo; exact hgo
  clear hH hlo
  refine va_gets hx hb hX.1 hS hown (hts _ wt2_161) (fun _ h9 => h9) dJs_coder_0_0 ?_
  refine W.eq (g2 := F0 m 3 ls [.int (iI 1)]) rfl ?_
  refine iv_if_eq (tgt := 13) hx hb dJs_coder_0_3 (by decide) ⟨by decide, by decide⟩ (fun hc3 => absurd hc3 (by omega)) (fun hc3 => ?_)
  refine lv_aload_n hx hb dJs_coder_0_6 rfl (lv_at hl 0 rfl) ?_
  refine vk_getf (v := .int 0) hx hb (hX.2.1.1 i hi).2.1 hS hown (hts _ wt5_131) (fun _ h9 => h9) dJs_coder_0_7 ?_
  refine W.eq (g2 := F0 m 10 ls [.int (iI 0)]) rfl ?_
  refine lv_goto (tgt := 14) hx hb dJs_coder_0_10 (by decide) ?_
  exact rt_z hx hb hr hlocks hK hS dJs_coder_0_14 (by decide) () hP hD (show 0 = 0 from by rfl)

theorem dJs_length_0_0 : decode prog_15_method_54_code 0 = .ok (.aload_n 0, 1) := by decide +kernel
theorem dJs_length_0_1 : decode prog_15_method_54_code 1 = .ok (.getfield 9, 3) := by decide +kernel
theorem dJs_length_0_4 : decode prog_15_method_54_code 4 = .ok (.arraylength, 1) := by decide +kernel
theorem dJs_length_0_5 : decode prog_15_method_54_code 5 = .ok (.aload_n 0, 1) := by decide +kernel
theorem dJs_length_0_6 : decode prog_15_method_54_code 6 = .ok (.invokevirtual 335, 3) := by decide +kernel
theorem dJs_length_0_9 : decode prog_15_method_54_code 9 = .ok (.ishr, 1) := by decide +kernel
theorem dJs_length_0_10 : decode prog_15_method_54_code 10 = .ok (.ireturn, 1) := by decide +kernel
abbrev qJs_length_0 (dC : Nat → ClassId) (dI : Nat → Nat → Nat) (dA : Nat → ClassId) (ad : Nat → Nat) (i : Nat) (A : Nat → Prop) : Array Value → State → Outcome → State → Prop := QI (dC, dI) vwCl (tyA dA) (fun (r : Int) (v_ : Unit) => r = sL i) (fun (v_ : Unit) => ([] : va_W)) A
abbrev rmJs_length_0 : Room := { frames := 1, cells := 0, slots := 0, locals := 20 }
set_option maxRecDepth 100000 in
set_option maxHeartbeats 1000000 in
theorem cJs_length_0 (l : Launch) (dC : Nat → ClassId) (dI : Nat → Nat → Nat) (dA : Nat → ClassId) (ad : Nat → Nat) (i : Nat) (hi : i < 3) (sz : Nat) : Met l yJs_length_0 wsJs_length_0 rmJs_length_0 (PC (dC, dI) vwCl (tyA dA) (XS ad) [.ref (ad i)] (([] : va_W)) sz) (qJs_length_0 dC dI dA ad i (va_A (([] : va_W)) sz)) 0 0 (va_A (([] : va_W)) sz) := by
  refine met_ofF (cc := prog_15_method_54_code) (maxL := 1) (ret := (some .int)) (Qc := qJs_length_0 dC dI dA ad i) (XS_ok ad) (by decide +kernel) rfl (Nat.le_of_ble_eq_true rfl) ?_
  intro p e s m below meth c ls A hx hb hr hml hown hts hlocks hnm hK hP hD hA hX hS hl
  have hl : lv_has ls 1 [(0, .ref (ad i))] := hl
  have hown : s.vm.findClass "java/lang/String" = some m.cls := hown
  obtain ⟨H, hH⟩ : ∃ H : Heap, H = s.heap := ⟨_, rfl⟩
  obtain ⟨locs, hlo⟩ : ∃ L : List Loc, L = [] := ⟨_, rfl⟩
  have hP : va_P (dC, dI) vwCl (([] : va_W)) H := hH ▸ hP
  have hS : va_S A s.heap H locs := by rw [hH, hlo]; exact hS
  suffices hgo : W p l e rmJs_length_0 s m [.ref (ad i)].toArray below meth c H locs 0 0 (MQ below (qJs_length_0 dC dI dA ad i A) [.ref (ad i)].toArray s 0 0 A) (F0 m 0 ls []) by rw [hH, hlo] at hgo; exact hgo
  clear hH hlo
  refine lv_aload_n hx hb dJs_length_0_0 rfl (lv_at hl 0 rfl) ?_
  refine vk_getf (v := .ref (ad (3 + i))) hx hb (hX.2.1.1 i hi).2.2.1 hS hown (hts _ wt5_132) (fun _ h9 => h9) dJs_length_0_1 ?_
  refine W.eq (g2 := F0 m 4 ls [.ref (ad (3 + i))]) rfl ?_
  refine va_tlen hx hb (hX.2.1.1 i hi).2.2.2 hS rfl dJs_length_0_4 ?_
  refine W.eq (g2 := F0 m 5 ls [.int (iI (sL i))]) rfl ?_
  refine lv_aload_n hx hb dJs_length_0_5 rfl (lv_at hl 0 rfl) ?_
  refine cv_i (va_runV (C := "java/lang/String") (As := []) (rest := [.int (iI (sL i))]) ⟨hx, hb, hml, hown, hts⟩ (cJs_coder_0 l dC dI dA ad i (by exact hi) H.size) (cwV 0 hts (gdV wt2_167 wt2_168 wt2_169 wt1_14 wt2_170) rfl rfl rfl ⟨rfl, by decide, by decide, by decide +kernel⟩ ⟨by decide, by decide⟩) (preK hK hP hD hS hA (XS_ok ad) hX (vk_recv hX.2.1 (i := i) hi hS)) rfl rfl hl.1 rfl (lv_room (Nat.le_of_ble_eq_true rfl)) dJs_length_0_6 ⟨Nat.zero_le _, Nat.zero_le _⟩) hP hD hS hA [] [] rfl (fun v_ => ([] : va_W)) (fun _ => rfl) ([] : va_W) rfl (fun _ => rfl) [] rfl (fun _ => rfl) (fun _ => rfl) (fun c9 u_ H locs hq6 hP hD hS => ?_)
  have hP : va_P (dC, dI) vwCl (([] : va_W)) H := hP
  have hD : va_D A (([] : va_W)) := hD
  have hq6 : c9 = 0 := hq6
  obtain rfl : c9 = 0 := hq6
  refine iv_ishr0 hx hb dJs_length_0_9 ?_
  exact rt_i hx hb hr hlocks hK hS dJs_length_0_10 () hP hD (show (sL i) = sL i from by rfl)

theorem dJs_isLatin1_0_0 : decode prog_15_method_154_code 0 = .ok (.getstatic 38, 3) := by decide +kernel
theorem dJs_isLatin1_0_3 : decode prog_15_method_154_code 3 = .ok (.ifCond .eq 14, 3) := by decide +kernel
theorem dJs_isLatin1_0_6 : decode prog_15_method_154_code 6 = .ok (.aload_n 0, 1) := by decide +kernel
theorem dJs_isLatin1_0_7 : decode prog_15_method_154_code 7 = .ok (.getfield 15, 3) := by decide +kernel
theorem dJs_isLatin1_0_10 : decode prog_15_method_154_code 10 = .ok (.ifCond .ne 7, 3) := by decide +kernel
theorem dJs_isLatin1_0_13 : decode prog_15_method_154_code 13 = .ok (.iconst 1, 1) := by decide +kernel
theorem dJs_isLatin1_0_14 : decode prog_15_method_154_code 14 = .ok (.goto 4, 3) := by decide +kernel
theorem dJs_isLatin1_0_17 : decode prog_15_method_154_code 17 = .ok (.iconst 0, 1) := by decide +kernel
theorem dJs_isLatin1_0_18 : decode prog_15_method_154_code 18 = .ok (.ireturn, 1) := by decide +kernel
abbrev qJs_isLatin1_0 (dC : Nat → ClassId) (dI : Nat → Nat → Nat) (dA : Nat → ClassId) (ad : Nat → Nat) (i : Nat) (A : Nat → Prop) : Array Value → State → Outcome → State → Prop := QI (dC, dI) vwCl (tyA dA) (fun (r : Int) (v_ : Unit) => r = 1) (fun (v_ : Unit) => ([] : va_W)) A
abbrev rmJs_isLatin1_0 : Room := { frames := 0, cells := 0, slots := 0, locals := 0 }
set_option maxRecDepth 100000 in
set_option maxHeartbeats 1000000 in
theorem cJs_isLatin1_0 (l : Launch) (dC : Nat → ClassId) (dI : Nat → Nat → Nat) (dA : Nat → ClassId) (ad : Nat → Nat) (i : Nat) (hi : i < 3) (sz : Nat) : Met l yJs_isLatin1_0 wsJs_isLatin1_0 rmJs_isLatin1_0 (PC (dC, dI) vwCl (tyA dA) (XS ad) [.ref (ad i)] (([] : va_W)) sz) (qJs_isLatin1_0 dC dI dA ad i (va_A (([] : va_W)) sz)) 0 0 (va_A (([] : va_W)) sz) := by
  refine met_ofF (cc := prog_15_method_154_code) (maxL := 1) (ret := (some .boolean)) (Qc := qJs_isLatin1_0 dC dI dA ad i) (XS_ok ad) (by decide +kernel) rfl (Nat.le_of_ble_eq_true rfl) ?_
  intro p e s m below meth c ls A hx hb hr hml hown hts hlocks hnm hK hP hD hA hX hS hl
  have hl : lv_has ls 1 [(0, .ref (ad i))] := hl
  have hown : s.vm.findClass "java/lang/String" = some m.cls := hown
  obtain ⟨H, hH⟩ : ∃ H : Heap, H = s.heap := ⟨_, rfl⟩
  obtain ⟨locs, hlo⟩ : ∃ L : List Loc, L = [] := ⟨_, rfl⟩
  have hP : va_P (dC, dI) vwCl (([] : va_W)) H := hH ▸ hP
  have hS : va_S A s.heap H locs := by rw [hH, hlo]; exact hS
  suffices hgo : W p l e rmJs_isLatin1_0 s m [.ref (ad i)].toArray below meth c H locs 0 0 (MQ below (qJs_isLatin1_0 dC dI dA ad i A) [.ref (ad i)].toArray s 0 0 A) (F0 m 0 ls []) by rw [hH, hlo] at hgo; exact hgo
  clear hH hlo
  refine va_gets hx hb hX.1 hS hown (hts _ wt2_161) (fun _ h9 => h9) dJs_isLatin1_0_0 ?_
  refine W.eq (g2 := F0 m 3 ls [.int (iI 1)]) rfl ?_
  refine iv_if_eq (tgt := 17) hx hb dJs_isLatin1_0_3 (by decide) ⟨by decide, by decide⟩ (fun hc3 => absurd hc3 (by omega)) (fun hc3 => ?_)
  refine lv_aload_n hx hb dJs_isLatin1_0_6 rfl (lv_at hl 0 rfl) ?_
  refine vk_getf (v := .int 0) hx hb (hX.2.1.1 i hi).2.1 hS hown (hts _ wt5_131) (fun _ h9 => h9) dJs_isLatin1_0_7 ?_
  refine W.eq (g2 := F0 m 10 ls [.int (iI 0)]) rfl ?_
  refine iv_if_ne (tgt := 17) hx hb dJs_isLatin1_0_10 (by decide) ⟨by decide, by decide⟩ (fun hc10 => absurd hc10 (by omega)) (fun hc10 => ?_)
  refine lv_iconst (v := iI 1) hx hb dJs_isLatin1_0_13 rfl ?_
  refine lv_goto (tgt := 18) hx hb dJs_isLatin1_0_14 (by decide) ?_
  exact rt_z hx hb hr hlocks hK hS dJs_isLatin1_0_18 (nrw_bool (by omega)) () hP hD (show 1 = 1 from by rfl)

theorem dJs_indexOf_2_0 : decode prog_15_method_80_code 0 = .ok (.aload_n 0, 1) := by decide +kernel
theorem dJs_indexOf_2_1 : decode prog_15_method_80_code 1 = .ok (.invokevirtual 492, 3) := by decide +kernel
theorem dJs_indexOf_2_4 : decode prog_15_method_80_code 4 = .ok (.ifCond .eq 19, 3) := by decide +kernel
theorem dJs_indexOf_2_7 : decode prog_15_method_80_code 7 = .ok (.aload_n 0, 1) := by decide +kernel
theorem dJs_indexOf_2_8 : decode prog_15_method_80_code 8 = .ok (.getfield 9, 3) := by decide +kernel
theorem dJs_indexOf_2_11 : decode prog_15_method_80_code 11 = .ok (.iload_n 1, 1) := by decide +kernel
theorem dJs_indexOf_2_12 : decode prog_15_method_80_code 12 = .ok (.iload_n 2, 1) := by decide +kernel
theorem dJs_indexOf_2_13 : decode prog_15_method_80_code 13 = .ok (.aload_n 0, 1) := by decide +kernel
theorem dJs_indexOf_2_14 : decode prog_15_method_80_code 14 = .ok (.invokevirtual 505, 3) := by decide +kernel
theorem dJs_indexOf_2_17 : decode prog_15_method_80_code 17 = .ok (.invokestatic 637, 3) := by decide +kernel
theorem dJs_indexOf_2_20 : decode prog_15_method_80_code 20 = .ok (.goto 16, 3) := by decide +kernel
theorem dJs_indexOf_2_23 : decode prog_15_method_80_code 23 = .ok (.aload_n 0, 1) := by decide +kernel
theorem dJs_indexOf_2_24 : decode prog_15_method_80_code 24 = .ok (.getfield 9, 3) := by decide +kernel
theorem dJs_indexOf_2_27 : decode prog_15_method_80_code 27 = .ok (.iload_n 1, 1) := by decide +kernel
theorem dJs_indexOf_2_28 : decode prog_15_method_80_code 28 = .ok (.iload_n 2, 1) := by decide +kernel
theorem dJs_indexOf_2_29 : decode prog_15_method_80_code 29 = .ok (.aload_n 0, 1) := by decide +kernel
theorem dJs_indexOf_2_30 : decode prog_15_method_80_code 30 = .ok (.invokevirtual 505, 3) := by decide +kernel
theorem dJs_indexOf_2_33 : decode prog_15_method_80_code 33 = .ok (.invokestatic 640, 3) := by decide +kernel
theorem dJs_indexOf_2_36 : decode prog_15_method_80_code 36 = .ok (.ireturn, 1) := by decide +kernel
abbrev qJs_indexOf_2 (dC : Nat → ClassId) (dI : Nat → Nat → Nat) (dA : Nat → ClassId) (ad : Nat → Nat) (i : Nat) (ch : Int) (f0 : Int) (A : Nat → Prop) : Array Value → State → Outcome → State → Prop := QI (dC, dI) vwCl (tyA dA) (fun (r : Int) (v_ : Unit) => (0 ≤ r ∧ r ≤ 100 ∧ inS i ch) ∨ (r = -1 ∧ ¬ inS i ch)) (fun (v_ : Unit) => ([] : va_W)) A
abbrev rmJs_indexOf_2 : Room := { frames := 2, cells := 0, slots := 0, locals := 48 }
set_option maxRecDepth 100000 in
set_option maxHeartbeats 1000000 in
theorem cJs_indexOf_2 (l : Launch) (dC : Nat → ClassId) (dI : Nat → Nat → Nat) (dA : Nat → ClassId) (ad : Nat → Nat) (i : Nat) (ch : Int) (f0 : Int) (hi : i < 3) (hch : 0 ≤ ch ∧ ch < 65536) (hf : f0 = 0) (sz : Nat) : Met l yJs_indexOf_2 wsJs_indexOf_2 rmJs_indexOf_2 (PC (dC, dI) vwCl (tyA dA) (XS ad) [.ref (ad i), .int (iI ch), .int (iI f0)] (([] : va_W)) sz) (qJs_indexOf_2 dC dI dA ad i ch f0 (va_A (([] : va_W)) sz)) 0 0 (va_A (([] : va_W)) sz) := by
  refine met_ofF (cc := prog_15_method_80_code) (maxL := 3) (ret := (some .int)) (Qc := qJs_indexOf_2 dC dI dA ad i ch f0) (XS_ok ad) (by decide +kernel) rfl (Nat.le_of_ble_eq_true rfl) ?_
  intro p e s m below meth c ls A hx hb hr hml hown hts hlocks hnm hK hP hD hA hX hS hl
  have hl : lv_has ls 3 [(0, .ref (ad i)), (1, .int (iI ch)), (2, .int (iI f0))] := hl
  have hown : s.vm.findClass "java/lang/String" = some m.cls := hown
  obtain ⟨H, hH⟩ : ∃ H : Heap, H = s.heap := ⟨_, rfl⟩
  obtain ⟨locs, hlo⟩ : ∃ L : List Loc, L = [] := ⟨_, rfl⟩
  have hP : va_P (dC, dI) vwCl (([] : va_W)) H := hH ▸ hP
  have hS : va_S A s.heap H locs := by rw [hH, hlo]; exact hS
  suffices hgo : W p l e rmJs_indexOf_2 s m [.ref (ad i), .int (iI ch), .int (iI f0)].toArray below meth c H locs 0 0 (MQ below (qJs_indexOf_2 dC dI dA ad i ch f0 A) [.ref (ad i), .int (iI ch), .int (iI f0)].toArray s 0 0 A) (F0 m 0 ls []) by rw [hH, hlo] at hgo; exact hgo
  clear hH hlo
  refine lv_aload_n hx hb dJs_indexOf_2_0 rfl (lv_at hl 0 rfl) ?_
  refine cv_i (va_runV (C := "java/lang/String") (As := []) (rest := []) ⟨hx, hb, hml, hown, hts⟩ (cJs_isLatin1_0 l dC dI dA ad i (by exact hi) H.size) (cwV 0 hts (gdV wt2_157 wt2_158 wt2_159 wt1_14 wt2_160) rfl rfl rfl ⟨rfl, by decide, by decide, by decide +kernel⟩ ⟨by decide, by decide⟩) (preK hK hP hD hS hA (XS_ok ad) hX (vk_recv hX.2.1 (i := i) hi hS)) rfl rfl hl.1 rfl (lv_room (Nat.le_of_ble_eq_true rfl)) dJs_indexOf_2_1 ⟨Nat.zero_le _, Nat.zero_le _⟩) hP hD hS hA [] [] rfl (fun v_ => ([] : va_W)) (fun _ => rfl) ([] : va_W) rfl (fun _ => rfl) [] rfl (fun _ => rfl) (fun _ => rfl) (fun r1 u_ H locs hq1 hP hD hS => ?_)
  have hP : va_P (dC, dI) vwCl (([] : va_W)) H := hP
  have hD : va_D A (([] : va_W)) := hD
  have hq1 : r1 = 1 := hq1
  refine iv_if_eq (tgt := 23) hx hb dJs_indexOf_2_4 (by decide) ⟨by omega, by omega⟩ (fun hc4 => absurd hc4 (by omega)) (fun hc4 => ?_)
  refine lv_aload_n hx hb dJs_indexOf_2_7 rfl (lv_at hl 0 rfl) ?_
  refine vk_getf (v := .ref (ad (3 + i))) hx hb (hX.2.1.1 i hi).2.2.1 hS hown (hts _ wt5_132) (fun _ h9 => h9) dJs_indexOf_2_8 ?_
  refine W.eq (g2 := F0 m 11 ls [.ref (ad (3 + i))]) rfl ?_
  refine lv_iload_n hx hb dJs_indexOf_2_11 rfl (lv_at hl 1 rfl) ?_
  refine lv_iload_n hx hb dJs_indexOf_2_12 rfl (lv_at hl 2 rfl) ?_
  refine lv_aload_n hx hb dJs_indexOf_2_13 rfl (lv_at hl 0 rfl) ?_
  refine cv_i (va_runV (C := "java/lang/String") (As := []) (rest := [.int (iI f0), .int (iI ch), .ref (ad (3 + i))]) ⟨hx, hb, hml, hown, hts⟩ (cJs_length_0 l dC dI dA ad i (by exact hi) H.size) (cwV 0 hts (gdV wt2_163 wt2_164 wt2_165 wt1_14 wt2_166) rfl rfl rfl ⟨rfl, by decide, by decide, by decide +kernel⟩ ⟨by decide, by decide⟩) (preK hK hP hD hS hA (XS_ok ad) hX (vk_recv hX.2.1 (i := i) hi hS)) rfl rfl hl.1 rfl (lv_room (Nat.le_of_ble_eq_true rfl)) dJs_indexOf_2_14 ⟨Nat.zero_le _, Nat.zero_le _⟩) hP hD hS hA [] [] rfl (fun v_ => ([] : va_W)) (fun _ => rfl) ([] : va_W) rfl (fun _ => rfl) [] rfl (fun _ => rfl) (fun _ => rfl) (fun r14 u_ H locs hq14 hP hD hS => ?_)
  have hP : va_P (dC, dI) vwCl (([] : va_W)) H := hP
  have hD : va_D A (([] : va_W)) := hD
  have hq14 : r14 = sL i := hq14
  refine cv_i (va_runS (As := [.ref (ad (3 + i)), .int (iI ch), .int (iI f0), .int (iI r14)]) (rest := []) ⟨hx, hb, hml, hown, hts⟩ (cJl_indexOf_3 l dC dI dA ad i ch f0 r14 (by exact hi) (by exact hch) (by exact ⟨hf, hq14⟩) H.size) (va_cwS 4 hts (gdT wt2_171 wt2_172 wt1_15 wt2_173) rfl rfl rfl ⟨by decide, by decide, by decide +kernel⟩ ⟨by decide, by decide⟩) (preS hK hP hD hS hA (XS_ok ad) hX [] rfl rfl) rfl rfl hl.1 rfl (lv_room (Nat.le_of_ble_eq_true rfl)) dJs_indexOf_2_17 ⟨Nat.zero_le _, Nat.zero_le _⟩) hP hD hS hA [] [] rfl (fun v_ => ([] : va_W)) (fun _ => rfl) ([] : va_W) rfl (fun _ => rfl) [] rfl (fun _ => rfl) (fun _ => rfl) (fun r17 u_ H locs hq17 hP hD hS => ?_)
  have hP : va_P (dC, dI) vwCl (([] : va_W)) H := hP
  have hD : va_D A (([] : va_W)) := hD
  have hq17 : (0 ≤ r17 ∧ r17 ≤ 100 ∧ inS i ch) ∨ (r17 = -1 ∧ ¬ inS i ch) := hq17
  refine lv_goto (tgt := 36) hx hb dJs_indexOf_2_20 (by decide) ?_
  exact rt_i hx hb hr hlocks hK hS dJs_indexOf_2_36 () hP hD (show (0 ≤ r17 ∧ r17 ≤ 100 ∧ inS i ch) ∨ (r17 = -1 ∧ ¬ inS i ch) from by exact hq17)

theorem dJs_indexOf_0_0 : decode prog_15_method_79_code 0 = .ok (.aload_n 0, 1) := by decide +kernel
theorem dJs_indexOf_0_1 : decode prog_15_method_79_code 1 = .ok (.iload_n 1, 1) := by decide +kernel
theorem dJs_indexOf_0_2 : decode prog_15_method_79_code 2 = .ok (.iconst 0, 1) := by decide +kernel
theorem dJs_indexOf_0_3 : decode prog_15_method_79_code 3 = .ok (.invokevirtual 633, 3) := by decide +kernel
theorem dJs_indexOf_0_6 : decode prog_15_method_79_code 6 = .ok (.ireturn, 1) := by decide +kernel
abbrev qJs_indexOf_0 (dC : Nat → ClassId) (dI : Nat → Nat → Nat) (dA : Nat → ClassId) (ad : Nat → Nat) (i : Nat) (ch : Int) (A : Nat → Prop) : Array Value → State → Outcome → State → Prop := QI (dC, dI) vwCl (tyA dA) (fun (r : Int) (v_ : Unit) => (0 ≤ r ∧ r ≤ 100 ∧ inS i ch) ∨ (r = -1 ∧ ¬ inS i ch)) (fun (v_ : Unit) => ([] : va_W)) A
abbrev rmJs_indexOf_0 : Room := { frames := 3, cells := 0, slots := 0, locals := 70 }
set_option maxRecDepth 100000 in
set_option maxHeartbeats 1000000 in
theorem cJs_indexOf_0 (l : Launch) (dC : Nat → ClassId) (dI : Nat → Nat → Nat) (dA : Nat → ClassId) (ad : Nat → Nat) (i : Nat) (ch : Int) (hi : i < 3) (hch : 0 ≤ ch ∧ ch < 65536) (sz : Nat) : Met l yJs_indexOf_0 wsJs_indexOf_0 rmJs_indexOf_0 (PC (dC, dI) vwCl (tyA dA) (XS ad) [.ref (ad i), .int (iI ch)] (([] : va_W)) sz) (qJs_indexOf_0 dC dI dA ad i ch (va_A (([] : va_W)) sz)) 0 0 (va_A (([] : va_W)) sz) := by
  refine met_ofF (cc := prog_15_method_79_code) (maxL := 2) (ret := (some .int)) (Qc := qJs_indexOf_0 dC dI dA ad i ch) (XS_ok ad) (by decide +kernel) rfl (Nat.le_of_ble_eq_true rfl) ?_
  intro p e s m below meth c ls A hx hb hr hml hown hts hlocks hnm hK hP hD hA hX hS hl
  have hl : lv_has ls 2 [(0, .ref (ad i)), (1, .int (iI ch))] := hl
  have hown : s.vm.findClass "java/lang/String" = some m.cls := hown
  obtain ⟨H, hH⟩ : ∃ H : Heap, H = s.heap := ⟨_, rfl⟩
  obtain ⟨locs, hlo⟩ : ∃ L : List Loc, L = [] := ⟨_, rfl⟩
  have hP : va_P (dC, dI) vwCl (([] : va_W)) H := hH ▸ hP
  have hS : va_S A s.heap H locs := by rw [hH, hlo]; exact hS
  suffices hgo : W p l e rmJs_indexOf_0 s m [.ref (ad i), .int (iI ch)].toArray below meth c H locs 0 0 (MQ below (qJs_indexOf_0 dC dI dA ad i ch A) [.ref (ad i), .int (iI ch)].toArray s 0 0 A) (F0 m 0 ls []) by rw [hH, hlo] at hgo; exact hgo
  clear hH hlo
  refine lv_aload_n hx hb dJs_indexOf_0_0 rfl (lv_at hl 0 rfl) ?_
  refine lv_iload_n hx hb dJs_indexOf_0_1 rfl (lv_at hl 1 rfl) ?_
  refine lv_iconst (v := iI 0) hx hb dJs_indexOf_0_2 rfl ?_
  refine cv_i (va_runV (C := "java/lang/String") (As := [.int (iI ch), .int (iI 0)]) (rest := []) ⟨hx, hb, hml, hown, hts⟩ (cJs_indexOf_2 l dC dI dA ad i ch 0 (by exact hi) (by exact hch) (by rfl) H.size) (cwV 2 hts (gdV wt2_153 wt2_154 wt2_155 wt1_14 wt2_156) rfl rfl rfl ⟨rfl, by decide, by decide, by decide +kernel⟩ ⟨by decide, by decide⟩) (preK hK hP hD hS hA (XS_ok ad) hX (vk_recv hX.2.1 (i := i) hi hS)) rfl rfl hl.1 rfl (lv_room (Nat.le_of_ble_eq_true rfl)) dJs_indexOf_0_3 ⟨Nat.zero_le _, Nat.zero_le _⟩) hP hD hS hA [] [] rfl (fun v_ => ([] : va_W)) (fun _ => rfl) ([] : va_W) rfl (fun _ => rfl) [] rfl (fun _ => rfl) (fun _ => rfl) (fun r3 u_ H locs hq3 hP hD hS => ?_)
  have hP : va_P (dC, dI) vwCl (([] : va_W)) H := hP
  have hD : va_D A (([] : va_W)) := hD
  have hq3 : (0 ≤ r3 ∧ r3 ≤ 100 ∧ inS i ch) ∨ (r3 = -1 ∧ ¬ inS i ch) := hq3
  exact rt_i hx hb hr hlocks hK hS dJs_indexOf_0_6 () hP hD (show (0 ≤ r3 ∧ r3 ≤ 100 ∧ inS i ch) ∨ (r3 = -1 ∧ ¬ inS i ch) from by exact hq3)
