/-! cells that are made: their addresses by number -/
def XY : XT := fun _ U _ => (∀ q ∈ nestM, va_Nw (.methodLinkNest q.1 q.2.1 q.2.2.1 q.2.2.2) U) ∧ va_AO "MacroReckoner$Tape" U ∧ va_AO "MacroReckoner$Value" U
theorem XY_ok : XOK XY := by
  refine ⟨fun A B U H h hAB => h, fun A U H H1 h hq => h, fun A u U H hW h => ?_, fun A u U H hv h => ?_⟩
  · exact ⟨fun q hq => va_Nw.warmM hW (h.1 q hq), h.2.1.moved hW.alike, h.2.2.moved hW.alike⟩
  · have ha : u.vm.Alike U.vm := hv ▸ Vm.Alike.refl u.vm
    exact ⟨fun q hq => va_Nw.same rfl hv (h.1 q hq), h.2.1.moved ha, h.2.2.moved ha⟩
theorem zar {n : Nat} {ty : FieldType} (h : defaultValue ty = .int 0) (cA : ClassId) : vp_cell cA (n, .inl (arI (fun _ => 0))) = arrV cA n (fun _ => defaultValue ty) := by
  rw [h]
  rfl
section ST9
variable {p : Program} {l : Launch} {e : Env} {R : Room} {s : State} {m : MethodId} {args : Array Value} {below : List Frame} {meth : Method} {c : Code} {H H0 : Heap} {locs : List Loc} {cells slots : Nat} {Q : State → Prop} {cc : ByteArray} {pc h : Nat} {ls : Array Slot} {rest st0 : List Value} {D : va_G} {cl : List vw_C} {A : Nat → Prop} {tys : List (ClassId × FieldType)} {ws wc wr : va_W} {X : XT}
theorem W_sz {n : Nat} {g : JFrame} (h1 : s.heap.size + cells ≤ n) (h2 : n ≤ H.size) (kk : H.size = n → W p l e R s m args below meth c H locs cells slots Q g) : W p l e R s m args below meth c H locs cells slots Q g := fun T hT X => kk (by have h3 := X.heapSize; rw [hT] at h3; omega) T hT X
theorem va_newH (hexec : p.tables.exec = Jvm.exec) (hb : c.code = cc) {own C : String} {T : u_T} {N ci index : Nat} {Ts : List Cond} (hts : ∀ w ∈ Ts, w.before args s = true) (hin : ∀ w ∈ u_ws C T N, w ∈ Ts) (ty : Nat → FieldType) (hty : ∀ k, k < N → parseFieldDescriptor (T k).2.2.1 = some (ty k)) (hown : s.vm.findClass own = some m.cls) (hcl : (Cond.classLink own index C).before args s = true) (hinst : (Cond.instantiable C N).before args s = true) (hini : (Cond.initialized C).before args s = true)
    (hK : va_K D cl tys s) (hP : va_P D cl ws H) (hD : va_D A ws) (hS : va_S A H0 H locs) (hA : ∀ q, H0.size ≤ q → A q) (hc : cl[ci]? = some (C, T, N)) {fs : List Value} (hfs : ∀ j, j < N → defaultValue (ty j) = vp_V fs j) (hcells : cells + 1 ≤ R.cells) (hslots : slots + N ≤ R.slots) (hdg : decode cc pc = .ok (.new index, 3)) (hz : H.size = h)
    (kk : ∀ H1 : Heap, va_P D cl (ws ++ [(h, .inr (ci, fs))]) H1 → va_D A (ws ++ [(h, .inr (ci, fs))]) → va_S A H0 H1 locs → H1.size = h + 1 →
      W p l e R s m args below meth c H1 locs (cells + 1) (slots + N) Q (F0 m (pc + 3) ls (.ref h :: rest))) : W p l e R s m args below meth c H locs cells slots Q (F0 m pc ls rest) := by
  subst hz
  have hKn := hK.1 ci _ hc
  refine W.newcK hexec hb hown hcl hinst hini rfl hdg hcells hslots hKn.2.1 rfl fun H1 kC hkC e1 z1 o1 => ?_
  have hk : ∀ (k : Nat) (x : Nat × va_E), ws[k]? = some x → H1[x.1]? = H[x.1]? := fun k x hx => o1 x.1 ((hP k x hx).lt)
  refine kk H1 ((hP.kept hk).app (fun k x hx => ?_)) (hD.push hP rfl (hA _ hS.1)) ⟨Nat.le_trans hS.1 (by omega), fun x h1 h2 => (o1 x (Nat.lt_of_lt_of_le h1 hS.1)).trans (hS.2.1 x h1 h2), hS.2.2⟩ z1
  have hz : k < 1 := (List.getElem?_eq_some_iff.mp hx).1
  rw [show k = 0 by omega] at hx
  cases hx
  exact ⟨_, hc, (u_born ty hts hin hKn hkC e1 hty).to hfs⟩
theorem va_newaH (hexec : p.tables.exec = Jvm.exec) (hb : c.code = cc) {atype : ArrayType} (harr : (Cond.arrayClass (newarray.typeOf atype)).before args s = true) {ty : FieldType} (hty : newarray.typeOf atype = ty) (hP : va_P D cl ws H) (hD : va_D A ws) (hS : va_S A H0 H locs) (hA : ∀ q, H0.size ≤ q → A q)
    {n : Int32} {N' : Nat} {a0 : vp_A} (ha : ∀ cA : ClassId, vp_cell cA a0 = arrV cA N' (fun _ => defaultValue ty)) {cA0 : ClassId} (hc0 : s.vm.findClass ("[" ++ ty.toString) = some cA0) (hn : ¬ n < 0) (hN : n.toNatClampNeg = N') (hbytes : N' * componentBytes ty ≤ 536870912) (hcells : cells + 1 ≤ R.cells) (hslots : slots + N' ≤ R.slots) (hdg : decode cc pc = .ok (.newarray atype, 2)) (hz : H.size = h)
    (kk : ∀ H1 : Heap, va_P D cl (ws ++ [(h, .inl (cA0, a0))]) H1 → va_D A (ws ++ [(h, .inl (cA0, a0))]) → va_S A H0 H1 locs → H1.size = h + 1 →
      W p l e R s m args below meth c H1 locs (cells + 1) (slots + N') Q (F0 m (pc + 2) ls (.ref h :: rest))) : W p l e R s m args below meth c H locs cells slots Q (F0 m pc ls (.int n :: rest)) := by
  subst hty
  subst hz
  refine va_newaK hexec hb harr rfl hdg rfl hn hN hbytes hcells hslots rfl fun H1 cA e1 z1 o1 hAr hNm => ?_
  cases hNm.symm.trans hc0
  have hk : ∀ (k : Nat) (x : Nat × va_E), ws[k]? = some x → H1[x.1]? = H[x.1]? := fun k x hx => o1 x.1 ((hP k x hx).lt)
  refine kk H1 ((hP.kept hk).app (fun k x hx => ?_)) (hD.push hP rfl (hA _ hS.1)) ⟨Nat.le_trans hS.1 (by omega), fun x h1 h2 => (o1 x (Nat.lt_of_lt_of_le h1 hS.1)).trans (hS.2.1 x h1 h2), hS.2.2⟩ z1
  have hz : k < 1 := (List.getElem?_eq_some_iff.mp hx).1
  rw [show k = 0 by omega] at hx
  cases hx
  show H1[H.size]? = some (vp_cell cA0 a0)
  rw [ha, e1]
theorem va_newqH (hexec : p.tables.exec = Jvm.exec) (hb : c.code = cc) {own C : String} {index : Nat} (hown : s.vm.findClass own = some m.cls) (hclink : (Cond.classLink own index C).before args s = true) (hover : va_AO C s) (hP : va_P D cl ws H) (hD : va_D A ws) (hS : va_S A H0 H locs) (hA : ∀ q, H0.size ≤ q → A q)
    {n : Int32} {N' : Nat} {cA0 : ClassId} (hc0 : s.vm.findClass ("[" ++ (FieldType.object C).toString) = some cA0) (hn : ¬ n < 0) (hN : n.toNatClampNeg = N') (hbytes : N' * 4 ≤ 536870912) (hcells : cells + 1 ≤ R.cells) (hslots : slots + N' ≤ R.slots) (hdg : decode cc pc = .ok (.anewarray index, 3)) (hz : H.size = h)
    (kk : ∀ H1 : Heap, va_P D cl (ws ++ [(h, .inl (cA0, N', .inr (.inr (.inr (.inr (fun _ => none))))))]) H1 → va_D A (ws ++ [(h, .inl (cA0, N', .inr (.inr (.inr (.inr (fun _ => none))))))]) → va_S A H0 H1 locs → H1.size = h + 1 →
      W p l e R s m args below meth c H1 locs (cells + 1) (slots + N') Q (F0 m (pc + 3) ls (.ref h :: rest))) : W p l e R s m args below meth c H locs cells slots Q (F0 m pc ls (.int n :: rest)) := by
  subst hN
  subst hz
  refine W.anew hexec hb hown hclink (va_AO.use hover) rfl hdg rfl hn hbytes hcells hslots fun cA kA comp f1 f2 f3 f4 => ?_
  cases f1.symm.trans hc0
  generalize hH1 : H.push ({ cls := cA0, slots := Array.replicate n.toNatClampNeg .null, vm := .none } : Cell) = H1
  have z1 : H1.size = H.size + 1 := by rw [← hH1, Array.size_push]
  have e1 : H1[H.size]? = some (arrV cA0 n.toNatClampNeg (fun _ => .null)) := by rw [← hH1, Array.getElem?_push_size, ← arrV_new]
  have o1 : ∀ q : Nat, q < H.size → H1[q]? = H[q]? := fun q hq => by rw [← hH1, Array.getElem?_push, if_neg (Nat.ne_of_lt hq)]
  have hk : ∀ (k : Nat) (x : Nat × va_E), ws[k]? = some x → H1[x.1]? = H[x.1]? := fun k x hx => o1 x.1 ((hP k x hx).lt)
  refine kk H1 ((hP.kept hk).app (fun k x hx => ?_)) (hD.push hP rfl (hA _ hS.1)) ⟨Nat.le_trans hS.1 (by omega), fun x h1 h2 => (o1 x (Nat.lt_of_lt_of_le h1 hS.1)).trans (hS.2.1 x h1 h2), hS.2.2⟩ z1
  have hz : k < 1 := (List.getElem?_eq_some_iff.mp hx).1
  rw [show k = 0 by omega] at hx
  cases hx
  exact e1
theorem range_map_l : ∀ (w1 w2 : va_W), (List.range w1.length).map (fun i => (w1 ++ w2)[i]?) = w1.map some := by
  intro w1 w2
  apply List.ext_getElem?
  intro k
  rw [List.getElem?_map, List.getElem?_map]
  by_cases hk : k < w1.length
  · rw [List.getElem?_range hk, List.getElem?_eq_getElem hk]
    show some ((w1 ++ w2)[k]?) = _
    rw [List.getElem?_append_left hk, List.getElem?_eq_getElem hk]
    rfl
  · rw [List.getElem?_eq_none (by rw [List.length_range]; omega), List.getElem?_eq_none (by omega)]
    rfl
theorem range_map_r : ∀ (w1 w2 : va_W), ((List.range w2.length).map (fun i => w1.length + i)).map (fun i => (w1 ++ w2)[i]?) = w2.map some := by
  intro w1 w2
  apply List.ext_getElem?
  intro k
  rw [List.getElem?_map, List.getElem?_map, List.getElem?_map]
  by_cases hk : k < w2.length
  · rw [List.getElem?_range hk, List.getElem?_eq_getElem hk]
    show some ((w1 ++ w2)[w1.length + k]?) = _
    rw [List.getElem?_append_right (by omega), show w1.length + k - w1.length = k by omega, List.getElem?_eq_getElem hk]
    rfl
  · rw [List.getElem?_eq_none (by rw [List.length_range]; omega), List.getElem?_eq_none (by omega)]
    rfl
theorem joinE {w1 : va_W} {H1 : Heap} (hP : va_P D cl (wr ++ wc) H) (hD : va_D A (wr ++ wc)) (hk : ∀ q : Nat, q < H.size → ¬ va_A wc H.size q → H1[q]? = H[q]?) (hF : ∀ q, va_A wc H.size q → A q) (hP1 : va_P D cl w1 H1) (hD1 : va_D (va_A wc H.size) w1) : va_P D cl (wr ++ w1) H1 ∧ va_D A (wr ++ w1) := by
  have hq : ∀ (i : Nat) (q : Nat × va_E), wr[i]? = some q → ¬ va_A wc H.size q.1 := by
    intro i q hi hz
    have hl := (List.getElem?_eq_some_iff.mp hi).1
    have h1 : (wr ++ wc)[i]? = some q := by rw [List.getElem?_append_left hl]; exact hi
    rcases hz with ⟨j, e, hj⟩ | hz
    · have h2 : (wr ++ wc)[wr.length + j]? = some (q.1, e) := by rw [List.getElem?_append_right (by omega), show wr.length + j - wr.length = j by omega]; exact hj
      have := hD.1 _ _ _ _ h1 h2 rfl
      omega
    · exact absurd (hP i q h1).lt (Nat.not_lt.mpr hz)
  have hr : va_P D cl wr H1 := fun i q hi => by
    have hl := (List.getElem?_eq_some_iff.mp hi).1
    have hat := hP i q (by rw [List.getElem?_append_left hl]; exact hi)
    exact hat.kept (hk q.1 hat.lt (hq i q hi))
  refine ⟨hr.app hP1, va_D.app ⟨fun i j p q hi hj h9 => ?_, fun k q hk9 => ?_⟩ (hD1.weaken (fun _ _ _ h9 => hF _ h9)) (fun i j p q hi hj h9 => ?_)⟩
  · have hi' := (List.getElem?_eq_some_iff.mp hi).1
    have hj' := (List.getElem?_eq_some_iff.mp hj).1
    exact hD.1 i j p q (by rw [List.getElem?_append_left hi']; exact hi) (by rw [List.getElem?_append_left hj']; exact hj) h9
  · have hl := (List.getElem?_eq_some_iff.mp hk9).1
    exact hD.2 k q (by rw [List.getElem?_append_left hl]; exact hk9)
  · exact hq i p hi (h9 ▸ hD1.2 j q hj)
theorem freeE (hD : va_D A (wr ++ wc)) (hS : va_S A s.heap H locs) (hA : ∀ q, s.heap.size ≤ q → A q) : ∀ q, va_A wc H.size q → A q := by
  intro q hq
  rcases hq with ⟨j, e, hj⟩ | hz
  · exact hD.2 (wr.length + j) _ (by rw [List.getElem?_append_right (by omega), show wr.length + j - wr.length = j by omega]; exact hj)
  · exact hA q (Nat.le_trans hS.1 hz)
theorem preE (hK : va_K D cl tys s) (hP : va_P D cl (wr ++ wc) H) (hD : va_D A (wr ++ wc)) (hS : va_S A s.heap H locs) (hA : ∀ q, s.heap.size ≤ q → A q) (hXO : XOK X) (hX : X A s s.heap) {As : List Value} : PreS s H (PC D cl tys X As wc H.size) As :=
  ⟨PC_blind hXO, fun U hU hW => ⟨rfl, by rw [hU], by rw [hU]; exact fun k q hk => hP (wr.length + k) q (by rw [List.getElem?_append_right (by omega), show wr.length + k - wr.length = k by omega]; exact hk), va_K.moved hW.alike hK,
    ⟨fun i j p q hi hj h9 => by
      have := hD.1 (wr.length + i) (wr.length + j) p q (by rw [List.getElem?_append_right (by omega), show wr.length + i - wr.length = i by omega]; exact hi) (by rw [List.getElem?_append_right (by omega), show wr.length + j - wr.length = j by omega]; exact hj) h9
      omega, fun _ _ _ => trivial⟩, by
    rw [hU]
    exact hXO.2.2.1 _ s U _ hW (hXO.1 _ _ _ _ (hXO.2.1 _ _ _ _ hX hS.2.1) (freeE hD hS hA))⟩⟩
abbrev QN (D : va_G) (cl : List vw_C) (tys : List (ClassId × FieldType)) (w1 : va_W) (A : Nat → Prop) : Array Value → State → Outcome → State → Prop := QV D cl tys (fun _ : Unit => True) (fun _ => w1) A
theorem cvN {w1 : va_W} {a : Array Value} {mc ms : Nat} (hr : va_Run p l e R s m args below meth c H locs cells slots mc ms (F0 m pc ls st0) rest (QN D cl tys w1 (va_A wc H.size) a) (va_A wc H.size)) (hP : va_P D cl (wr ++ wc) H) (hD : va_D A (wr ++ wc)) (hS : va_S A s.heap H locs) (hA : ∀ q, s.heap.size ≤ q → A q)
    (kk : ∀ (H1 : Heap) (locs1 : List Loc), va_P D cl (wr ++ w1) H1 → va_D A (wr ++ w1) → va_S A s.heap H1 locs1 → W p l e R s m args below meth c H1 locs1 (cells + mc) (slots + ms) Q (F0 m (pc + 3) ls rest)) : W p l e R s m args below meth c H locs cells slots Q (F0 m pc ls st0) := by
  have hF := freeE hD hS hA
  refine va_callv hr hS (fun q _ h => hF q h) hF (fun u t H1 locs1 ht hvm hp hB hz hk hS1 => ?_)
  obtain ⟨hP1, hK1, hD1⟩ := hB
  rw [ht] at hP1
  obtain ⟨hP2, hD2⟩ := joinE hP hD hk hF hP1 hD1
  exact kk H1 locs1 hP2 hD2 hS1
theorem met_ofN {y : MethodName} {yws ws' : List Cond} {rm : Room} {maxL mc ms : Nat} {ret : Option FieldType} {av : List Value} {sz : Nat} {Qc : (Nat → Prop) → Array Value → State → Outcome → State → Prop} (hy : plainName y.cls = true) (hw : yws = Cond.code y cc maxL ret :: ws') (hav : (lg_sl av).length ≤ maxL)
    (body : ∀ (p : Program) (e : Env) (s : State) (m : MethodId) (below : List Frame) (meth : Method) (c : Code) (ls : Array Slot) (A : Nat → Prop), p.tables.exec = Jvm.exec → c.code = cc → meth.sig.returnType = ret → c.maxLocals = maxL → s.vm.findClass y.cls = some m.cls → (∀ w ∈ ws', w.before av.toArray s = true) → meth.locks = false → meth.name = y.name → va_K D cl tys s → va_P D cl ws s.heap → va_D A ws → (∀ q, s.heap.size ≤ q → A q) → X A s s.heap → va_S A s.heap s.heap [] → lv_has ls maxL (lv_args 0 av) → s.heap.size = sz →
      W p l e rm s m av.toArray below meth c s.heap [] 0 0 (MQ below (Qc A) av.toArray s mc ms A) (F0 m 0 ls [])) : Met l y yws rm (PC D cl tys X av ws sz) (Qc (va_A ws sz)) mc ms (va_A ws sz) := by
  refine Met.ofW (cc := cc) (maxL := maxL) (ret := ret) hy hw ?_
  intro p e s m args below meth c s₁ B hml hv
  obtain ⟨rfl, hsz, hP, hK, hD0, hX⟩ := hv
  have hl := lv_entry av (n := maxL) hav
  rw [lg_entry_eq]
  exact body p e s m below meth c _ _ B.exec B.bytes B.returns hml (findClass_of_methodNamed B.named) (fun w hw' => atoms_spec (ws := yws) B.pre w (by rw [hw]; exact List.mem_cons_of_mem _ hw')) B.notSynchronized (name_of_methodNamed B.named B.method).1 hK hP hD0.self (fun q h => Or.inr (hsz ▸ h)) hX va_S.rf hl hsz
end ST9
theorem gdI {c : Cond} (h5 : c ∈ wg) : GoodIn wg (c :: wg) := gd h5
theorem tyI {dC : Nat → ClassId} {dI : Nat → Nat → Nat} {dA : Nat → ClassId} {s : State} (hK : va_K (dC, dI) vwCl (tyA dA) s) : s.vm.findClass ("[" ++ FieldType.int.toString) = some (dA 0) ∧ s.vm.findClass ("[" ++ FieldType.char.toString) = some (dA 1) ∧ s.vm.findClass ("[" ++ FieldType.boolean.toString) = some (dA 2) ∧ s.vm.findClass ("[" ++ FieldType.long.toString) = some (dA 3) ∧ s.vm.findClass ("[" ++ (FieldType.object "MacroReckoner$Value").toString) = some (dA 4) ∧ s.vm.findClass ("[" ++ (FieldType.object "MacroReckoner$Tape").toString) = some (dA 5) := by
  refine ⟨(hK.2 0 _ rfl).2, (hK.2 1 _ rfl).2, (hK.2 2 _ rfl).2, (hK.2 3 _ rfl).2, ?_, ?_⟩
  · obtain ⟨kA, comp, -, -, -, h⟩ := (hK.2 4 _ rfl).2
    exact h
  · obtain ⟨kA, comp, -, -, -, h⟩ := (hK.2 5 _ rfl).2
    exact h
theorem iIn {n : Nat} (h : n < 2147483647) : ¬ iI (n : Int) < 0 ∧ (iI (n : Int)).toNatClampNeg = n :=
  ⟨fun q => iI_vp (z := (n : Int)) (n := n + 1) (by omega) (by omega) (by omega) (Or.inl q), by rw [iI_cl (by omega) (by omega)]; omega⟩
