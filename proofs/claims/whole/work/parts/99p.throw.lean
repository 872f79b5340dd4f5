/-! a method that throws a new cell, and one that catches it -/
theorem al_c {P : Cond → Prop} {x : Cond} {w : List Cond} (h : P x) (k : ∀ a ∈ w, P a) : ∀ a ∈ x :: w, P a := List.forall_mem_cons.mpr ⟨h, k⟩
theorem al_n {P : Cond → Prop} : ∀ a ∈ ([] : List Cond), P a := fun _ h => absurd h List.not_mem_nil
/-- the words of a static field of references, wherever its cell is kept -/
def vE (C n d : String) (A : Nat → Prop) (U : State) (H : Heap) : Prop := ∃ a : Nat, ¬ A a ∧ a < H.size ∧ ∀ U' : State, U.vm.Alike U'.vm → U'.heap[a]? = H[a]? → ∀ a' : Array Value, (Cond.laysStatic C n d).before a' U' = true ∧ (Cond.isRef (.static C n d)).before a' U' = true
theorem vE_of {args : Array Value} {s : State} {C n d : String} {A : Nat → Prop} (hl : (Cond.laysStatic C n d).before args s = true) (hr : (Cond.isRef (.static C n d)).before args s = true) (hA : ∀ a : Nat, a < s.heap.size → ¬ A a) : vE C n d A s s.heap := by
  obtain ⟨c, k, i, f, a, cell, hc, hi, hst, ha, hcell, hs, hcls, hlt, hty⟩ := Cond.laysStatic_spec hl
  have hlt9 := (Array.getElem?_eq_some_iff.mp hcell).1
  refine ⟨a, hA a hlt9, hlt9, fun U hAl hU a' => ?_⟩
  obtain ⟨k', hi', hek⟩ := State.fieldFound?_setVm hAl hi
  have hi2 : U.fieldFound? C n d = some (c, k', i, f) := hi'
  have hc2 : U.vm.findClass C = some c := by rw [hAl.findClass]; exact hc
  have hcell2 : U.heap[a]? = some cell := hU.trans hcell
  have ha2 : k'.statics = some a := by rw [hek]; exact ha
  refine ⟨Cond.laysStatic_of hc2 hi2 hst ha2 hcell2 hs hcls hlt (by rw [hek]; exact hty), ?_⟩
  cases hv : (Term.static C n d).eval args s none [] s with
  | none => simp [Cond.before, Cond.holds, Cond.value, hv] at hr
  | some w =>
    obtain ⟨-, a2, cell2, e1, e2, -, hslot⟩ := Term.static_spec hi hv
    cases ha.symm.trans e1
    cases hcell.symm.trans e2
    have hev : (Term.static C n d).eval a' U none [] U = some w := by
      simp [Term.eval, State.fieldNamed?, hi2, hst, ha2, hcell2, hs, hslot]
    simp only [Cond.before, Cond.holds, Cond.value, hv] at hr
    simp only [Cond.before, Cond.holds, Cond.value, hev]
    exact hr
theorem vE_w {C n d : String} {A B : Nat → Prop} {U : State} {H : Heap} (h : vE C n d A U H) (hAB : ∀ q, B q → A q) : vE C n d B U H := by
  obtain ⟨a, h1, h2, h3⟩ := h
  exact ⟨a, fun q => h1 (hAB a q), h2, h3⟩
theorem vE_k {C n d : String} {A : Nat → Prop} {U : State} {H H1 : Heap} (h : vE C n d A U H) (hq : ∀ a : Nat, a < H.size → ¬ A a → H1[a]? = H[a]?) : vE C n d A U H1 := by
  obtain ⟨a, h1, h2, h3⟩ := h
  have e := hq a h2 h1
  exact ⟨a, h1, (Array.getElem?_eq_some_iff.mp (e.trans (Array.getElem?_eq_getElem h2))).1, fun U' x y => h3 U' x (y.trans e)⟩
theorem vE_m {C n d : String} {A : Nat → Prop} {u U : State} {H : Heap} (h : vE C n d A u H) (hv : u.vm.Alike U.vm) : vE C n d A U H := by
  obtain ⟨a, h1, h2, h3⟩ := h
  exact ⟨a, h1, h2, fun U' x y => h3 U' (hv.trans x) y⟩
theorem vE_at {C n d : String} {A : Nat → Prop} {s : State} (h : vE C n d A s s.heap) (a' : Array Value) : (Cond.laysStatic C n d).before a' s = true ∧ (Cond.isRef (.static C n d)).before a' s = true := by
  obtain ⟨a, -, -, h3⟩ := h
  exact h3 s (Vm.Alike.refl s.vm) rfl a'
abbrev iae : String := "java/lang/IllegalArgumentException"
def XE : XT := fun A U H => vE Bundle.tN "UNASSIGNED_STACK" Bundle.steD A U H ∧ vE Bundle.tN "SUPPRESSED_SENTINEL" Bundle.listD A U H ∧ va_Nw (.declares ⟨"java/lang/RuntimeException", "<init>", "()V"⟩) U ∧ va_Nw (.declares ⟨"java/lang/Exception", "<init>", "()V"⟩) U ∧ va_Nw (.declares ⟨"java/lang/Throwable", "<init>", "()V"⟩) U ∧ va_Nw (.castable iae iae) U
theorem XE_ok : XOK XE := by
  refine ⟨fun A B U H h hAB => ⟨vE_w h.1 hAB, vE_w h.2.1 hAB, h.2.2⟩, fun A U H H1 h hq => ⟨vE_k h.1 hq, vE_k h.2.1 hq, h.2.2⟩, fun A u U H hW h => ⟨vE_m h.1 hW.alike, vE_m h.2.1 hW.alike, va_Nw.warmD hW h.2.2.1, va_Nw.warmD hW h.2.2.2.1, va_Nw.warmD hW h.2.2.2.2.1, va_Nw.warmC hW h.2.2.2.2.2⟩, fun A u U H hv h => ?_⟩
  have ha : u.vm.Alike U.vm := hv ▸ Vm.Alike.refl u.vm
  exact ⟨vE_m h.1 ha, vE_m h.2.1 ha, va_Nw.same rfl hv h.2.2.1, va_Nw.same rfl hv h.2.2.2.1, va_Nw.same rfl hv h.2.2.2.2.1, va_Nw.same rfl hv h.2.2.2.2.2⟩
/-- what has become of a state out of which a new cell was thrown -/
def TH (st : State) (o : Outcome) (t : State) : Prop := ∃ (x : Nat) (ce : Cell), o = .threw x ∧ st.WarmedH t.vm ∧ st.sameButNew ({ t with vm := st.vm } : State) [] 1 6 ∧ t.heap[x]? = some ce ∧ ce.vm.isStatics = false ∧ st.vm.findClass iae = some ce.cls
def TQ (below : List Frame) (s : State) : State → Prop := fun t => ∃ o : Outcome, t.status = .running ∧ Ended t below o ∧ TH s o t
def PT (av : List Value) : Array Value → State → Prop := fun a U => a = av.toArray ∧ XE (fun q => U.heap.size ≤ q) U U.heap
theorem PT_blind {av : List Value} : FrameBlind (PT av) := fun a U g mk h => ⟨h.1, XE_ok.2.2.2 _ U (U.calling g mk a) _ rfl h.2⟩
abbrev TMet (l : Launch) (y : MethodName) (ws : List Cond) (rm : Room) (av : List Value) : Prop := MetFree l y (headSpec ws rm) (PT av) (fun _ _ _ _ _ => True) (fun _ st o t => TH st o t)
section STH
variable {p : Program} {l : Launch} {e : Env} {R : Room} {s : State} {m : MethodId} {args : Array Value} {below : List Frame} {meth : Method} {c : Code} {H : Heap} {locs : List Loc} {cells slots : Nat} {Q : State → Prop} {cc : ByteArray} {pc : Nat} {ls : Array Slot} {rest : List Value} {D : va_G} {cl : List vw_C} {A : Nat → Prop} {tys : List (ClassId × FieldType)} {ws : va_W} {X : XT}
/-- new, dup, the constructor without parameters, athrow -/
theorem W_thrN (hx : p.tables.exec = Jvm.exec) (hb : c.code = cc) {own : String} {i1 i2 : Nat} {names : List String} (hown : s.vm.findClass own = some m.cls) (hcl : (Cond.classLink own i1 iae).before args s = true) (hins : (Cond.instantiable iae 6).before args s = true) (hini : (Cond.initialized iae).before args s = true)
    (hats : ∀ a ∈ Bundle.ownAtoms0 own i2 iae names, a.before args s = true) (hnames : ∀ n ∈ names, Bundle.fit n = true) (htr : e.platform.stackTraces = false) (hlocks : meth.locks = false) (hex : c.exceptionTable.isEmpty = true) (hl1 : ls.size = c.maxLocals) (hH : s.heap.size ≤ H.size)
    (d1 : decode cc pc = .ok (.new i1, 3)) (d2 : decode cc (pc + 3) = .ok (.dup, 1)) (d3 : decode cc (pc + 3 + 1) = .ok (.invokespecial i2, 3)) (d4 : decode cc (pc + 3 + 1 + 3) = .ok (.athrow, 1)) (hc : 1 ≤ R.cells) (hs6 : 6 ≤ R.slots) (hfr : names.length + 3 < R.frames) (hlo : 1 + (13 * (names.length + 1) + 41) ≤ R.locals) :
    W p l e R s m args below meth c H [] 0 0 (TQ below s) (F0 m pc ls []) := by
  refine W.newc hx hb hown hcl hins hini rfl d1 (by omega) (by omega) (fun cC kC f1 f2 f3 f4 => ?_)
  refine W.eq (g2 := F0 m (pc + 3) ls [.ref H.size]) rfl ?_
  refine lv_dup hx hb d2 rfl ?_
  intro T hT XS
  have hcell : T.heap[H.size]? = some (freshCell cC kC) := by rw [hT, Array.getElem?_push_size]
  obtain ⟨U, st, hrun, hend, hW, hsame, ce, hce, how⟩ := XS.ctorThrow0 hx htr hown (by decide) hnames hats (fun x hx9 => absurd hx9 List.not_mem_nil) f1 f2 hcell hH (g := F0 m (pc + 3 + 1) ls [.ref H.size, .ref H.size]) rfl hl1 rfl rfl rfl (by rw [hb]; exact d3) (by rw [hb]; exact d4)
    (fun x hx9 => by
      have h9 : c.exceptionTable.toList = [] := by
        have := Array.isEmpty_iff.mp hex
        rw [this]
      rw [h9] at hx9
      exact absurd hx9 List.not_mem_nil) hfr hlo hlocks
  exact ⟨U, st, .threw H.size, hrun, hend, H.size, ce, rfl, hW, hsame, hce, by rw [how.vm]; rfl, how.cls⟩
theorem tmet_of {y : MethodName} {yws ws' : List Cond} {rm : Room} {maxL : Nat} {ret : Option FieldType} {av : List Value} (hy : plainName y.cls = true) (hw : yws = Cond.code y cc maxL ret :: ws') (hav : (lg_sl av).length ≤ maxL)
    (body : ∀ (p : Program) (e : Env) (s : State) (m : MethodId) (below : List Frame) (meth : Method) (c : Code) (ls : Array Slot), p.tables.exec = Jvm.exec → c.code = cc → c.maxLocals = maxL → s.vm.findClass y.cls = some m.cls → (∀ w ∈ ws', w.before av.toArray s = true) → meth.locks = false → c.exceptionTable.isEmpty = true → l.admits e → XE (fun q => s.heap.size ≤ q) s s.heap → lv_has ls maxL (lv_args 0 av) →
      W p l e rm s m av.toArray below meth c s.heap [] 0 0 (TQ below s) (F0 m 0 ls [])) : TMet l y yws rm av := by
  refine MetFree.of_bodyS (code := cc) (maxLocals := maxL) (ret := ret) hy ?_ ?_
  · intro args s m h hn
    obtain ⟨meth, c, h1, h2, h3, h4, h5, h6, -, -⟩ := Cond.code_spec hn (atoms_spec (ws := yws) h _ (by rw [hw]; exact List.mem_cons_self))
    exact ⟨meth, c, h1, h2, h3, h4, h5, h6⟩
  · intro p e s m args below meth c s₁ B hml hv _
    obtain ⟨rfl, hX⟩ := hv
    have hh0 : s₁.heap = s.heap := by rw [B.state]; rfl
    have X0 := Stand.of_body B
    obtain ⟨meth', c', q1, q2, -, -, -, -, q7, -⟩ := Cond.code_spec B.named (atoms_spec (ws := yws) B.pre _ (by rw [hw]; exact List.mem_cons_self))
    cases X0.method.symm.trans q1
    cases X0.code.symm.trans q2
    have hl := lv_entry av (n := maxL) hav
    have hgo : W p l e rm s m av.toArray below meth c s.heap [] 0 0 (TQ below s) (entryFrame m av.toArray maxL) := by
      rw [lg_entry_eq]
      exact body p e s m below meth c _ B.exec B.bytes hml (findClass_of_methodNamed B.named) (fun w hw' => atoms_spec (ws := yws) B.pre w (by rw [hw]; exact List.mem_cons_of_mem _ hw')) B.notSynchronized q7 B.admits hX hl
    obtain ⟨t, a1, o, b1, b2, b3⟩ := hgo s₁ hh0 X0
    exact ⟨t, o, a1, b1, b2, b3⟩
theorem kept_sz {s t : State} {k n : Nat} (h : s.sameButNew t [] k n) : s.heap.size ≤ t.heap.size ∧ ∀ q : Nat, q < s.heap.size → t.heap[q]? = s.heap[q]? := by
  have hk : ∀ q : Nat, q < s.heap.size → t.heap[q]? = s.heap[q]? := fun q hq => by
    rw [Array.getElem?_eq_getElem hq]
    exact h.kept_nil (Array.getElem?_eq_getElem hq)
  refine ⟨Nat.le_of_not_lt fun q => ?_, hk⟩
  have h1 := hk _ q
  rw [Array.getElem?_eq_none (Nat.le_refl _), Array.getElem?_eq_getElem q] at h1
  cases h1
/-- the callee has thrown: the caller's frame lies under the note, nothing old has changed, one cell is new -/
theorem thr_call {y : MethodName} {yws : List Cond} {rm : Room} {av : List Value} {own : String} {index maxL n : Nat} {bytes : ByteArray} {ret : Option FieldType} {U : State} {g : JFrame} {ig : Instr} {mk : MethodId} (hM : TMet l y yws rm av) (cb : CallB R s args own index y bytes maxL ret yws rm 1 6 n) (XU : Stand p l e R s m args below meth c U locs cells slots) (hg : g.method = m) (hsize : g.locals.size = c.maxLocals) (hdg : decode c.code g.pc = .ok (ig, 3)) (hW : 2 * g.monitorRoom + (g.stack.map fun v => v.category).sum ≤ 8) (hn : U.methodNamed? y = some mk) (hc1 : cells + 1 ≤ R.cells) (hs6 : slots + 6 ≤ R.slots) (hX : XE (fun q => U.heap.size ≤ q) U U.heap) :
    ∃ (v : Nat) (U' : State) (ce : Cell), Stand p l e R s m args below meth c U' locs (cells + 1) (slots + 6) ∧ U.heap.size ≤ U'.heap.size ∧ (∀ q : Nat, q < U.heap.size → U'.heap[q]? = U.heap[q]?) ∧ U'.heap[v]? = some ce ∧ ce.vm.isStatics = false ∧ U.vm.findClass iae = some ce.cls ∧ Steps p.tables e below (doInvoke e (U.setTop g) [] mk av.toArray).1 ((U'.setTop g).pushFrame (.throwing v)) := by
  obtain ⟨hrc, hrs, hfr, hlo, hws, hcw, hcode, hini, hy, hlen, hlk⟩ := cb
  have hpre : (headSpec yws rm).pre.before av.toArray U = true := atoms_intro fun w hw => hws w hw _ _ XU.warmed
  obtain ⟨methY, cY, hmY, hcY, -, hlY, -, -, -, -⟩ := Cond.code_spec hn (hws _ hcw av.toArray U XU.warmed)
  obtain ⟨kY, hkY, -⟩ := className_of_methodNamed hn
  have hinitU : (Cond.initialized y.cls).before av.toArray U = true := word_at XU.warmed (Or.inl (by first | rfl | simp [Cond.onTables, Cond.keeps, Cond.steady])) hini
  have hat : At U g.method c below := by rw [hg]; exact XU.here
  have happ : (headSpec yws rm).appliesLoose y e.platform (U.calling g mk av.toArray) = true :=
    Spec.appliesLoose_calling (g := g) hat hdg hn hkY (Cond.initialized_spec (findClass_of_methodNamed hn) hkY hinitU)
      (XU.room_calling (g := g) (R' := rm) hsize hmY hcY hfr (by rw [hlY]; omega) (by rw [hrc]; exact hc1) (by rw [hrs]; exact hs6)) hpre
  obtain ⟨mid, hmid⟩ := hat.above
  have hfrs : (U.setTop g).frames = (.java g :: mid) ++ below := by rw [State.frames_setTop' g hat.top, hmid]; rfl
  obtain ⟨o, t, hsteps, -, hend, v, ce, ho, hwarm, hsame, hce, hcs, hcc⟩ := Steps.callFree hM p XU.admits XU.cas XU.clock (acts := []) hfrs happ (show PT av av.toArray (U.calling g mk av.toArray) from PT_blind _ _ _ _ ⟨rfl, hX⟩) trivial
  subst ho
  rw [State.frames_setTop' g hat.top] at hend
  have hft : t.frames = .throwing v :: .java g :: U.frames.tail := hend
  obtain ⟨g₀, hg0⟩ := Option.isSome_iff_exists.mp hat.top
  obtain ⟨r, hr⟩ := State.topJava?_eq_some.mp hg0
  have hwU : U.WarmedH t.vm := hwarm
  obtain ⟨hz, hk⟩ := kept_sz hsame
  obtain ⟨e2, q2, q3, q4, q5, q6⟩ := hsame
  have hN : ({ U with heap := t.heap, slotsUsed := t.slotsUsed } : State).setVm t.vm = ({ U with heap := t.heap, slotsUsed := t.slotsUsed } : State).setVm t.vm := rfl
  have hrN : (({ U with heap := t.heap, slotsUsed := t.slotsUsed } : State).setVm t.vm).frames = .java g₀ :: r := hr
  have hte : t = ((({ U with heap := t.heap, slotsUsed := t.slotsUsed } : State).setVm t.vm).setTop g).pushFrame (.throwing v) := by
    have h1 : t = ({ (U.calling g mk av.toArray).setFrames t.frames with heap := t.heap, slotsUsed := t.slotsUsed } : State).setVm t.vm := by
      have h0 : t = ({ t with vm := (U.pushFrame (.invoking mk av.toArray)).vm } : State).setVm t.vm := rfl
      exact h0.trans (congrArg (fun u : State => u.setVm t.vm) e2)
    refine h1.trans ?_
    rw [hft, State.calling_eq hat.top, State.setFrames_setFrames, State.pushFrame, State.frames_setTop _ hrN, State.setTop_of_frames _ hrN, State.setFrames_setFrames, hr]
    rfl
  have hsU : U.sameButNew ({ U with heap := t.heap, slotsUsed := t.slotsUsed } : State) [] 1 6 := by
    refine ⟨?_, q2, q3, q4, q5, q6⟩
    obtain ⟨w, hw, -⟩ := State.frames_cons hr
    show ({ U with heap := t.heap, slotsUsed := t.slotsUsed } : State) = { U.setFrames U.frames with heap := t.heap, slotsUsed := t.slotsUsed }
    rw [State.setFrames_self hw]
  have XN : Stand p l e R s m args below meth c (({ U with heap := t.heap, slotsUsed := t.slotsUsed } : State).setVm t.vm) (locs ++ []) (cells + 1) (slots + 6) :=
    ⟨XU.admits, XU.cas, XU.clock, XU.frames, XU.room, XU.hears, XU.method, XU.code, (XU.here.setHeapUsed t.heap t.slotsUsed).setVm hwU.alike, XU.tail, State.WarmedH.trans XU.warmed hwU, XU.limits, XU.bytes, XU.same.trans (hsU.setVm s.vm)⟩
  rw [List.append_nil] at XN
  refine ⟨v, _, ce, XN, hz, hk, hce, hcs, hcc, ?_⟩
  rw [← hte]
  exact hsteps
/-- the note over the frame is taken by the one entry of the method's table -/
theorem thr_caught {U : State} {own : String} {v p0 p1 ph ct : Nat} (XU : Stand p l e R s m args below meth c U locs cells slots) (hown : s.vm.findClass own = some m.cls) (htab : c.exceptionTable.toList = [⟨p0, p1, ph, ct⟩]) (hcov : covers ⟨p0, p1, ph, ct⟩ pc = true) (hct : ct ≠ 0) (hlk : (Cond.classLink own ct iae).before args s = true) {cT : ClassId} (hcT : s.vm.findClass iae = some cT) {ce : Cell} (hce : U.heap[v]? = some ce) (hcs : ce.vm.isStatics = false) (hfit : s.vm.assignable ce.cls cT = true) :
    ∃ vm' : Vm, Stand p l e R s m args below meth c (U.setVm vm') locs cells slots ∧ Steps p.tables e below ((U.setTop (F0 m pc ls rest)).pushFrame (.throwing v)) ((U.setVm vm').setTop (F0 m ph ls [.ref v])) := by
  obtain ⟨c9, hc9, hcl⟩ := Cond.classLink_spec hown hlk e.platform (by rw [XU.admits.platform])
  cases hcT.symm.trans hc9
  obtain ⟨dk, _, _, kt, hd, _, _, _, _, hkt, _, hopen⟩ := hcl.here
  have hal := XU.warmed.alike
  obtain ⟨kU, hkU, -⟩ := hal.2.2 _ _ hkt
  have hfU : U.vm.assignable ce.cls cT = true := by rw [hal.assignable]; exact hfit
  obtain ⟨kE, hkE⟩ := Vm.classAt_of_assignable hfU ⟨kU, hkU⟩
  have han : U.vm.Alike (U.vm.noted m.cls ct (.cls cT)) := (Vm.Alike.refl U.vm).noted _ _ _
  obtain ⟨kE9, hkE9, -⟩ := han.2.2 _ _ hkE
  obtain ⟨kU9, hkU9, -⟩ := han.2.2 _ _ hkU
  have hfN : (U.vm.noted m.cls ct (.cls cT)).assignable ce.cls cT = true := by rw [han.assignable]; exact hfU
  obtain ⟨ga, gb⟩ := (resolveClass_links e.toSetting (XU.warmed.classLinks hcl)).op (op := VmOp.resolveClass m.cls ct) rfl
  have hns : ∀ k, ce.vm ≠ .statics k := VmData.ne_statics_of hcs
  have hcv : (decide (p0 ≤ pc) && decide (pc < p1)) = true := hcov
  refine ⟨U.vm.noted m.cls ct (.cls cT), XU.noted (XU.warmed.noted hd hopen (State.rightAt_cls hcl)), ?_⟩
  have hat : At U (F0 m pc ls rest).method c below := XU.here
  obtain ⟨hgo, hwi⟩ := hat.throwing v
  obtain ⟨g₀, hg0⟩ := Option.isSome_iff_exists.mp hat.top
  obtain ⟨r, hr⟩ := State.topJava?_eq_some.mp hg0
  have hrN : (U.setVm (U.vm.noted m.cls ct (.cls cT))).frames = .java g₀ :: r := hr
  refine Steps.head hgo hwi ?_
  rw [stepThread_throwing (frames_entered hat.top _)]
  have hS : ((U.setTop (F0 m pc ls rest)).pushFrame (.throwing v)).vm = U.vm := rfl
  have hmU : ((U.setTop (F0 m pc ls rest)).pushFrame (.throwing v)).vm.method? (F0 m pc ls rest).method = some meth := XU.method'
  have hceS : ((U.setTop (F0 m pc ls rest)).pushFrame (.throwing v)).heap[v]? = some ce := hce
  have hwp : ∀ (Q : Handler → Jvm.Pre) (E : Jvm.CtlPost) (b9 : Bool) (acts : List Action), wp (findHandler (F0 m pc ls rest) v) Q E e b9 acts ((U.setTop (F0 m pc ls rest)).pushFrame (.throwing v)) ↔ Q (.found ph) b9 acts (((U.setTop (F0 m pc ls rest)).pushFrame (.throwing v)).setVm (U.vm.noted m.cls ct (.cls cT))) := by
    intro Q E b9 acts
    rw [Jvm.W.findHandler_eq hmU XU.code, htab]
    simp [findHandler.go, hcv, hct, hS, ga, gb, hceS, hns, hkE9, hkU9, hfN, VmOp.dirties, VmOp.acts]
  have hst : (stepThrowing e ((U.setTop (F0 m pc ls rest)).pushFrame (.throwing v)) v (.java (F0 m pc ls rest) :: U.frames.tail)).1 = (((U.setTop (F0 m pc ls rest)).pushFrame (.throwing v)).setVm (U.vm.noted m.cls ct (.cls cT))).setFrames (.java (F0 m ph ls [.ref v]) :: U.frames.tail) := by
    simp only [stepThrowing, searchFrame, vmDo]
    generalize hg9 : Sem.go _ e false [] _ = res
    obtain ⟨as, rfl, -⟩ := Sem.eq_ok_of hg9 (a := Handler.found ph) (s' := ((U.setTop (F0 m pc ls rest)).pushFrame (.throwing v)).setVm (U.vm.noted m.cls ct (.cls cT))) (acts' := []) (by simp [hwp _ _ _ _])
    rfl
  rw [hst]
  have hfin : (((U.setTop (F0 m pc ls rest)).pushFrame (.throwing v)).setVm (U.vm.noted m.cls ct (.cls cT))).setFrames (.java (F0 m ph ls [.ref v]) :: U.frames.tail) = (U.setVm (U.vm.noted m.cls ct (.cls cT))).setTop (F0 m ph ls [.ref v]) := by
    rw [State.setTop_of_frames _ hrN, hr, List.tail_cons, State.setTop_of_frames _ hr]
    show (((U.setFrames (.java (F0 m pc ls rest) :: r)).pushFrame (.throwing v)).setFrames (.java (F0 m ph ls [.ref v]) :: r)).setVm (U.vm.noted m.cls ct (.cls cT)) = _
    rw [State.pushFrame, State.setFrames_setFrames, State.setFrames_setFrames]
    rfl
  rw [hfin]
  exact Steps.refl _
/-- a call that throws, caught in the same method -/
theorem va_thr {y : MethodName} {yws : List Cond} {rm : Room} {As : List Value} {own C : String} {index maxL n nL b p0 p1 ph ct : Nat} {bytes : ByteArray} {ret : Option FieldType} (hx : p.tables.exec = Jvm.exec) (hb : c.code = cc) (hml : c.maxLocals = nL) (hown : s.vm.findClass own = some m.cls) (hM : TMet l y yws rm (.ref b :: As)) (cw : CallW R s args own C index y bytes maxL ret yws rm 1 6 n)
    (hrecv : ∃ cellB : Cell, H[b]? = some cellB ∧ cellB.vm.isStatics = false ∧ s.vm.findClass C = some cellB.cls) (hX : XE A s s.heap) (hS : va_S A s.heap H locs) (hA : ∀ q, s.heap.size ≤ q → A q)
    (htab : c.exceptionTable.toList = [⟨p0, p1, ph, ct⟩]) (hcov : covers ⟨p0, p1, ph, ct⟩ pc = true) (hct : ct ≠ 0) (hlk : (Cond.classLink own ct iae).before args s = true) (hcast : (Cond.castable iae iae).before args s = true)
    (hn : As.length = n) (hl1 : ls.size = nL) (hW : (rest.map fun v => v.category).sum ≤ 8) (d : decode cc pc = .ok (.invokevirtual index, 3)) (hf : cells + 1 ≤ R.cells ∧ slots + 6 ≤ R.slots)
    (kk : ∀ (H1 : Heap) (x : Nat), H.size ≤ H1.size → (∀ q : Nat, q < H.size → H1[q]? = H[q]?) → W p l e R s m args below meth c H1 locs (cells + 1) (slots + 6) Q (F0 m ph ls [.ref x])) : W p l e R s m args below meth c H locs cells slots Q (F0 m pc ls (As.reverse ++ .ref b :: rest)) := by
  have cb := cw.1
  obtain ⟨⟨hrc, hrs, hfr, hlo, hws, hcw, hcode, hini, hy, hlen, hlk2⟩, hin, hse⟩ := cw
  obtain ⟨cellB, hcB, hoB, hclB⟩ := hrecv
  intro T hT XS
  subst hT
  obtain ⟨mk, methM, hnamed, hmethM, hstM, habM⟩ := Cond.instanceMethod_spec hin
  obtain ⟨methM', cM, hmethM', -, -, -, -, -, -, hsigM⟩ := Cond.code_spec hnamed hcode
  cases hmethM.symm.trans hmethM'
  obtain ⟨c2, r2, m2, q1, q2, q3, q4, kP, hkP, hkPi⟩ := Cond.selects_spec hse
  cases hclB.symm.trans q1
  cases (State.methodFound?_of_named hnamed hy).symm.trans q2
  cases hnamed.symm.trans q3
  have hselP : selectMethod e.platform s.vm cellB.cls mk = .method mk := by rw [Launch.admits_selectMethod XS.admits]; exact q4
  obtain ⟨vm₁, X₁, hstep₁⟩ := XS.invokevirtual hx hown hlk2 hnamed hmethM hstM hkP hkPi hy (a := b) (cell := cellB) hcB
    (fun z h => by rw [h] at hoB; cases hoB) hselP hmethM habM hkP hkPi (g := F0 m pc ls (As.reverse ++ .ref b :: rest)) rfl (argsL := As) (rest := rest) (hn.trans (hlen _ hsigM)) rfl (by rw [hb]; exact d)
  have hXE : XE (fun q => T.heap.size ≤ q) (T.setVm vm₁) T.heap :=
    XE_ok.2.2.1 _ s (T.setVm vm₁) _ X₁.warmed (XE_ok.1 _ _ _ _ (XE_ok.2.1 _ _ _ _ hX hS.2.1) (fun q h => hA q (Nat.le_trans hS.1 h)))
  obtain ⟨v, U, ce, X', hz, hk, hce, hcs, hcc, hsteps⟩ := thr_call (U := T.setVm vm₁) (g := F0 m pc ls rest) (ig := .invokevirtual index) hM cb X₁ rfl (hl1.trans hml.symm) (by rw [hb]; exact d) (lv_room hW) (X₁.named hnamed) hf.1 hf.2 hXE
  obtain ⟨c3, cT, hc3, hcT, hasg⟩ := Cond.castable_spec hcast
  have hcC : s.vm.findClass iae = some ce.cls := by rw [← X₁.warmed.alike.findClass]; exact hcc
  cases hc3.symm.trans hcC
  obtain ⟨vm2, XV, come⟩ := thr_caught (pc := pc) (ls := ls) (rest := rest) X' hown htab hcov hct hlk hcT hce hcs hasg
  obtain ⟨t, a1, b1⟩ := kk U.heap v hz hk (U.setVm vm2) rfl XV
  exact ⟨t, (hstep₁ _ fun acts => by rw [doInvoke_state]; exact hsteps.trans (come.trans a1)), b1⟩
/-- a contract out of a walk of a body that has an exception table -/
theorem metW_of {y : MethodName} {yws ws' : List Cond} {rm : Room} {maxL mc ms : Nat} {ret : Option FieldType} {hh : List (Nat × Nat × Nat × Nat)} {av : List Value} {sz : Nat} {Qc : (Nat → Prop) → Array Value → State → Outcome → State → Prop} (hy : plainName y.cls = true) (hw : yws = Cond.codeWith y cc maxL ret hh :: ws') (hav : (lg_sl av).length ≤ maxL)
    (body : ∀ (p : Program) (e : Env) (s : State) (m : MethodId) (below : List Frame) (meth : Method) (c : Code) (ls : Array Slot) (A : Nat → Prop), p.tables.exec = Jvm.exec → c.code = cc → meth.sig.returnType = ret → c.maxLocals = maxL → s.vm.findClass y.cls = some m.cls → (∀ w ∈ ws', w.before av.toArray s = true) → meth.locks = false → c.exceptionTable.toList = tableOf hh → va_K D cl tys s → va_P D cl ws s.heap → va_D A ws → (∀ q, s.heap.size ≤ q → A q) → X A s s.heap → va_S A s.heap s.heap [] → lv_has ls maxL (lv_args 0 av) →
      W p l e rm s m av.toArray below meth c s.heap [] 0 0 (MQ below (Qc A) av.toArray s mc ms A) (F0 m 0 ls [])) : Met l y yws rm (PC D cl tys X av ws sz) (Qc (va_A ws sz)) mc ms (va_A ws sz) := by
  refine va_MetW (cc := cc) (maxL := maxL) (ret := ret) (hh := hh) hy hw ?_
  intro p e s m args below meth c s₁ B hml hv
  obtain ⟨rfl, hsz, hP, hK, hD0, hX⟩ := hv
  subst hsz
  have X0 := Stand.of_body B
  obtain ⟨m9, meth', c', hn9, q1, q2, -, -, q5, -, -, -⟩ := Cond.codeWith_spec (atoms_spec (ws := yws) B.pre _ (by rw [hw]; exact List.mem_cons_self))
  cases B.named.symm.trans hn9
  cases X0.method.symm.trans q1
  cases X0.code.symm.trans q2
  have htab : c.exceptionTable.toList = tableOf hh := by rw [← table_eq c.exceptionTable.toList, q5]
  have hl := lv_entry av (n := maxL) hav
  rw [lg_entry_eq]
  exact body p e s m below meth c _ _ B.exec B.bytes B.returns hml (findClass_of_methodNamed B.named) (fun w hw' => atoms_spec (ws := yws) B.pre w (by rw [hw]; exact List.mem_cons_of_mem _ hw')) B.notSynchronized htab hK hP hD0.self (fun q h => Or.inr h) hX va_S.rf hl
/-- a static call of a method that has an exception table -/
theorem va_runSW {y : MethodName} {bytes : ByteArray} {maxL nL mc ms n index : Nat} {ret : Option FieldType} {hh : List (Nat × Nat × Nat × Nat)} {yws ws' : List Cond} {rm : Room} {Pc : Array Value → State → Prop} {Qc : Array Value → State → Outcome → State → Prop} {free : Addr → Prop} {Ts : List Cond} {own : String} {As : List Value} {g : JFrame}
    (S : CallFix p m c cc nL s args Ts own) (hM : Met l y yws rm Pc Qc mc ms free) (hG : GoodIn Ts yws) (hw : yws = Cond.codeWith y bytes maxL ret hh :: ws') (hrc : rm.cells = mc) (hrs : rm.slots = ms) (hst : (Cond.static y).before args s = true) (hini : (Cond.initialized y.cls).before args s = true) (hlk : (Cond.methodLink own index y).before args s = true)
    (hd : y.cls ≠ "java/lang/invoke/MethodHandle" ∧ y.cls ≠ "java/lang/invoke/VarHandle" ∧ (parseMethodDescriptor y.desc).map (fun d => d.parameters.length) = some n) (hR : rm.frames + 1 ≤ R.frames ∧ 8 + (maxL + 11) + rm.locals ≤ R.locals) (hp : PreS s H Pc As)
    (hg : g.method = m) (hn : As.length = n) (hsize : g.locals.size = nL) (hstack : g.stack = As.reverse ++ rest) (hW : 2 * g.monitorRoom + (rest.map fun v => v.category).sum ≤ 8) (hdg : decode cc g.pc = .ok (.invokestatic index, 3)) (hf : cells + mc ≤ R.cells ∧ slots + ms ≤ R.slots) :
    va_Run p l e R s m args below meth c H locs cells slots mc ms g rest (Qc As.toArray) (free) := by
  obtain ⟨hx, hb, hml, ho, ht⟩ := S
  have hc9 : Cond.codeWith y bytes maxL ret hh ∈ yws := by rw [hw]; exact List.mem_cons_self
  have hK : Back l R p e below s args y 3 8 (PreOf R mc ms Pc) (PostOf Qc mc ms free) := va_backW (hh := hh) (bytes := bytes) (maxL := maxL) (ret := ret) hM hp.1 hrc hrs hR.1 hR.2 (pay_in ht hG) hc9 (fun a' U hW9 => word_at hW9 (Or.inl (by first | rfl | simp [Cond.onTables, Cond.keeps, Cond.steady])) hini)
  intro T hT XS
  obtain ⟨mk, methM, cM, hnamed, hmethM, -, -, -, -, -, -, hsigM⟩ := Cond.codeWith_spec (ht _ (hG _ hc9).1)
  have hstatic : methM.isStatic = true := Cond.static_spec hnamed hmethM hst
  obtain ⟨kP, hkP, -⟩ := className_of_methodNamed hnamed
  have hinitP : kP.init = .initialized := Cond.initialized_spec (findClass_of_methodNamed hnamed) hkP hini
  have hlen : As.length = methM.sig.parameters.length := by
    have h2 := hd.2.2
    rw [hsigM] at h2
    exact hn.trans (Option.some.inj h2).symm
  obtain ⟨vm₁, X₁, hstep₁⟩ := XS.invokestatic hx ho hlk hnamed hmethM hstatic hkP hinitP ⟨hd.1, hd.2.1⟩ (g := g) hg (argsL := As) (rest := rest) hlen hstack (by rw [hb]; exact hdg)
  obtain ⟨v, ⟨U', l2, c2, s2⟩, X', ⟨g', mk', t, L, e1, e2, hq, h1, hL, h2, h3⟩, hsteps⟩ := hK m meth c ⟨T.setVm vm₁, locs, cells, slots⟩ { g with stack := rest } (.invokestatic index) mk As.toArray X₁ hg (hsize.trans hml.symm) (by rw [hb]; exact hdg) hW (X₁.named hnamed) ⟨hf.1, hf.2, hp.2 (T.setVm vm₁) hT X₁.warmed⟩
  dsimp only [Pt.U, Pt.locs, Pt.cells, Pt.slots] at X' e1 e2 h1 h2 h3 hsteps
  subst h1
  subst h2
  subst h3
  exact ⟨v, (T.setVm vm₁).calling g' mk' As.toArray, t, U', L, hT, X', hL, e1, e2, hq, fun target h => hstep₁ _ fun acts => by rw [doInvoke_state]; exact hsteps.trans h⟩
end STH
