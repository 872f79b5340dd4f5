/-! a standard form for contracts: a world that keeps its addresses, and what lies outside it -/
def setL : va_W → List Nat → va_W → va_W
  | ws, i :: is, e :: es => setL (ws.set i e) is es
  | ws, _, _ => ws
theorem setL_get : ∀ (is : List Nat) (ws w1 : va_W), is.length = w1.length → ∀ (k : Nat) (q : Nat × va_E), (setL ws is w1)[k]? = some q → q ∈ w1 ∨ (ws[k]? = some q ∧ k ∉ is)
  | [], ws, w1, _, k, q, h => by
    cases w1 <;> exact Or.inr ⟨h, List.not_mem_nil⟩
  | i :: is, ws, [], hl, k, q, h => by simp at hl
  | i :: is, ws, e :: es, hl, k, q, h => by
    have h1 := setL_get is (ws.set i e) es (by simpa using hl) k q h
    rcases h1 with h1 | ⟨h1, h2⟩
    · exact Or.inl (List.mem_cons_of_mem _ h1)
    · by_cases hk : k = i
      · subst hk
        rw [List.getElem?_set] at h1
        split at h1
        · split at h1
          · cases h1
            exact Or.inl List.mem_cons_self
          · cases h1
        · exact absurd rfl ‹_›
      · rw [List.getElem?_set_ne (Ne.symm hk)] at h1
        exact Or.inr ⟨h1, fun z => by rcases List.mem_cons.mp z with z | z; exact hk z; exact h2 z⟩
theorem setL_fst : ∀ (is : List Nat) (ws w1 : va_W), is.map (fun i => (ws[i]?).map Prod.fst) = w1.map (fun q => some q.1) → (setL ws is w1).map Prod.fst = ws.map Prod.fst
  | [], ws, w1, h => by cases w1 <;> rfl
  | i :: is, ws, [], h => by simp at h
  | i :: is, ws, e :: es, h => by
    simp only [List.map_cons, List.cons.injEq] at h
    have hset : (ws.set i e).map Prod.fst = ws.map Prod.fst := by
      apply List.ext_getElem?
      intro k
      rw [List.getElem?_map, List.getElem?_map]
      by_cases hk : k = i
      · subst hk
        cases hw : ws[k]? with
        | none => rw [hw] at h; simp at h
        | some q =>
          have hl := (List.getElem?_eq_some_iff.mp hw).1
          rw [List.getElem?_set_self hl]
          rw [hw] at h
          simpa using h.1.symm
      · rw [List.getElem?_set_ne (Ne.symm hk)]
    show (setL (ws.set i e) is es).map Prod.fst = _
    rw [setL_fst is (ws.set i e) es ?_, hset]
    rw [← h.2]
    apply List.map_congr_left
    intro j _
    have : ((ws.set i e).map Prod.fst)[j]? = (ws.map Prod.fst)[j]? := by rw [hset]
    rw [List.getElem?_map, List.getElem?_map] at this
    exact this
theorem va_D_fst {A : Nat → Prop} {ws ws' : va_W} (h : ws'.map Prod.fst = ws.map Prod.fst) (hD : va_D A ws) : va_D A ws' := by
  have key : ∀ (k : Nat) (q : Nat × va_E), ws'[k]? = some q → ∃ q0, ws[k]? = some q0 ∧ q0.1 = q.1 := by
    intro k q hk
    have h1 := congrArg (fun l : List Nat => l[k]?) h
    simp only [List.getElem?_map, hk, Option.map_some] at h1
    cases hw : ws[k]? with
    | none => rw [hw] at h1; cases h1
    | some q0 => rw [hw] at h1; exact ⟨q0, rfl, (Option.some.inj h1).symm⟩
  refine ⟨fun i j x y hi hj hxy => ?_, fun k q hk => ?_⟩
  · obtain ⟨x0, h1, h2⟩ := key i x hi
    obtain ⟨y0, h3, h4⟩ := key j y hj
    exact hD.1 i j x0 y0 h1 h3 (by rw [h2, h4]; exact hxy)
  · obtain ⟨q0, h1, h2⟩ := key k q hk
    rw [← h2]
    exact hD.2 k q0 h1
theorem map_key {ws wc : va_W} {isC : List Nat} (hC : isC.map (fun i => ws[i]?) = wc.map some) (k : Nat) (q : Nat × va_E) (hk : wc[k]? = some q) : ∃ i, isC[k]? = some i ∧ ws[i]? = some q := by
  have h1 : (isC.map (fun i => ws[i]?))[k]? = some (some q) := by rw [hC, List.getElem?_map, hk]; rfl
  rw [List.getElem?_map] at h1
  cases hi : isC[k]? with
  | none => rw [hi] at h1; cases h1
  | some i => rw [hi] at h1; exact ⟨i, rfl, Option.some.inj h1⟩
theorem va_P_map {D : va_G} {cl : List vw_C} {ws wc : va_W} {H : Heap} (hP : va_P D cl ws H) (isC : List Nat) (hC : isC.map (fun i => ws[i]?) = wc.map some) : va_P D cl wc H := fun k q hk => by
  obtain ⟨i, -, hi⟩ := map_key hC k q hk
  exact hP i q hi
theorem va_joinS {A0 : Nat → Prop} {D : va_G} {cl : List vw_C} {ws wc w1 : va_W} {H H1 : Heap} (hP : va_P D cl ws H) (hD : va_D A0 ws) (isC : List Nat) (hC : isC.map (fun i => ws[i]?) = wc.map some) (ha : w1.map Prod.fst = wc.map Prod.fst)
    (hk : ∀ q : Nat, q < H.size → ¬ va_A wc H.size q → H1[q]? = H[q]?) (hP1 : va_P D cl w1 H1) : va_P D cl (setL ws isC w1) H1 ∧ va_D A0 (setL ws isC w1) := by
  have hlen : isC.length = w1.length := by
    have h1 := congrArg List.length hC
    have h2 := congrArg List.length ha
    simp only [List.length_map] at h1 h2
    omega
  refine ⟨fun k q hq => ?_, va_D_fst (setL_fst isC ws w1 ?_) hD⟩
  · rcases setL_get isC ws w1 hlen k q hq with h | ⟨h, hni⟩
    · obtain ⟨j, hj⟩ := List.getElem?_of_mem h
      exact hP1 j q hj
    · have hat := hP k q h
      refine hat.kept (hk q.1 hat.lt ?_)
      rintro (⟨j, e, hj⟩ | hz)
      · obtain ⟨i, h1, h2⟩ := map_key hC j _ hj
        have := hD.1 i k _ _ h2 h rfl
        subst this
        exact hni (List.mem_of_getElem? h1)
      · exact absurd hat.lt (Nat.not_lt.mpr hz)
  · have e1 : isC.map (fun i => (ws[i]?).map Prod.fst) = (isC.map (fun i => ws[i]?)).map (Option.map Prod.fst) := by rw [List.map_map]; rfl
    rw [e1, hC, List.map_map]
    have e2 := congrArg (List.map some) ha
    rw [List.map_map, List.map_map] at e2
    exact e2.symm
theorem va_joinW {A0 : Nat → Prop} {D : va_G} {cl : List vw_C} {ws wc w1 wn : va_W} {H H1 : Heap} (hP : va_P D cl ws H) (hD : va_D A0 ws) (isC isR : List Nat) (hC : isC.map (fun i => ws[i]?) = wc.map some) (h1 : isC.map (fun i => wn[i]?) = w1.map some) (h2 : isR.map (fun i => wn[i]?) = isR.map (fun i => ws[i]?)) (h3 : wn.map Prod.fst = ws.map Prod.fst) (h4 : (List.range wn.length).all (fun k => isC.contains k || (isR.contains k && !isC.contains k)) = true)
    (hk : ∀ q : Nat, q < H.size → ¬ va_A wc H.size q → H1[q]? = H[q]?) (hP1 : va_P D cl w1 H1) : va_P D cl wn H1 ∧ va_D A0 wn := by
  refine ⟨fun k q hq => ?_, va_D_fst h3 hD⟩
  have hlt := (List.getElem?_eq_some_iff.mp hq).1
  have hcov := List.all_eq_true.mp h4 k (List.mem_range.mpr hlt)
  simp only [Bool.or_eq_true, Bool.and_eq_true, List.contains_iff_mem, Bool.not_eq_true'] at hcov
  rcases hcov with hc | ⟨hr, hni⟩
  · obtain ⟨j, hj⟩ := List.getElem?_of_mem hc
    have e : (isC.map (fun i => wn[i]?))[j]? = some (wn[k]?) := by rw [List.getElem?_map, hj]; rfl
    rw [h1, List.getElem?_map, hq] at e
    cases hw : w1[j]? with
    | none => rw [hw] at e; cases e
    | some q1 =>
      rw [hw] at e
      have e2 : q1 = q := Option.some.inj (Option.some.inj e)
      rw [← e2]
      exact hP1 j q1 hw
  · obtain ⟨j, hj⟩ := List.getElem?_of_mem hr
    have e : (isR.map (fun i => wn[i]?))[j]? = some (wn[k]?) := by rw [List.getElem?_map, hj]; rfl
    rw [h2, List.getElem?_map, hj, hq] at e
    have h : ws[k]? = some q := Option.some.inj e
    have hni : k ∉ isC := by
      intro z
      have := List.contains_iff_mem.mpr z
      rw [this] at hni
      cases hni
    have hat := hP k q h
    refine hat.kept (hk q.1 hat.lt ?_)
    rintro (⟨j, e, hj⟩ | hz)
    · obtain ⟨i, g1, g2⟩ := map_key hC j _ hj
      have := hD.1 i k _ _ g2 h rfl
      subst this
      exact hni (List.mem_of_getElem? g1)
    · exact absurd hat.lt (Nat.not_lt.mpr hz)
abbrev XT : Type := (Nat → Prop) → State → Heap → Prop
def XOK (X : XT) : Prop := (∀ (A B : Nat → Prop) (U : State) (H : Heap), X A U H → (∀ q, B q → A q) → X B U H) ∧ (∀ (A : Nat → Prop) (U : State) (H H1 : Heap), X A U H → (∀ a : Nat, a < H.size → ¬ A a → H1[a]? = H[a]?) → X A U H1) ∧ (∀ (A : Nat → Prop) (u U : State) (H : Heap), u.WarmedH U.vm → X A u H → X A U H) ∧ ∀ (A : Nat → Prop) (u U : State) (H : Heap), u.vm = U.vm → X A u H → X A U H
def XN : XT := fun _ _ _ => True
theorem XN_ok : XOK XN := ⟨fun _ _ _ _ _ _ => trivial, fun _ _ _ _ _ _ => trivial, fun _ _ _ _ _ _ => trivial, fun _ _ _ _ _ _ => trivial⟩
def PC (D : va_G) (cl : List vw_C) (tys : List (ClassId × FieldType)) (X : XT) (av : List Value) (ws : va_W) (sz : Nat) : Array Value → State → Prop := va_Pc av (fun U => U.heap.size = sz ∧ va_P D cl ws U.heap ∧ va_K D cl tys U ∧ va_D (fun _ => True) ws ∧ X (va_A ws sz) U U.heap)
def BW (D : va_G) (cl : List vw_C) (tys : List (ClassId × FieldType)) (ws : va_W) (A : Nat → Prop) (t : State) : Prop := va_P D cl ws t.heap ∧ va_K D cl tys t ∧ va_D A ws
def QV (D : va_G) (cl : List vw_C) (tys : List (ClassId × FieldType)) {S : Type} (post : S → Prop) (w1 : S → va_W) (A : Nat → Prop) : Array Value → State → Outcome → State → Prop := va_Qv post (fun u t => BW D cl tys (w1 u) A t) A
def QI (D : va_G) (cl : List vw_C) (tys : List (ClassId × FieldType)) {S : Type} (post : Int → S → Prop) (w1 : S → va_W) (A : Nat → Prop) : Array Value → State → Outcome → State → Prop := va_Qi (fun r u => ∃ z : Int, r = iI z ∧ post z u) (fun u t => BW D cl tys (w1 u) A t) A
def QL (D : va_G) (cl : List vw_C) (tys : List (ClassId × FieldType)) {S : Type} (post : Int → S → Prop) (w1 : S → va_W) (A : Nat → Prop) : Array Value → State → Outcome → State → Prop := va_Ql (fun r u => ∃ z : Int, r = iL z ∧ post z u) (fun u t => BW D cl tys (w1 u) A t) A
def QR (D : va_G) (cl : List vw_C) (tys : List (ClassId × FieldType)) {S : Type} (post : Nat → S → Prop) (w1 : S → va_W) (A : Nat → Prop) : Array Value → State → Outcome → State → Prop := va_Qr (fun _ : S => True) (fun u a t => post a u ∧ BW D cl tys (w1 u) A t) A
theorem PC_blind {D : va_G} {cl : List vw_C} {tys : List (ClassId × FieldType)} {X : XT} (hXO : XOK X) {av : List Value} {ws : va_W} {sz : Nat} : FrameBlind (PC D cl tys X av ws sz) := fun a U g mk q => by
  obtain ⟨q0, q1, qP, qK, qD, qX⟩ := q
  exact ⟨q0, q1, qP, va_K.moved (u := U) (U := U.calling g mk a) (Vm.Alike.refl U.vm) qK, qD, hXO.2.2.2 _ U (U.calling g mk a) _ rfl qX⟩
section ST
variable {p : Program} {l : Launch} {e : Env} {R : Room} {s : State} {m : MethodId} {args : Array Value} {below : List Frame} {meth : Method} {c : Code} {H : Heap} {locs : List Loc} {cells slots : Nat} {Q : State → Prop} {cc : ByteArray} {pc : Nat} {ls : Array Slot} {rest st0 : List Value} {D : va_G} {cl : List vw_C} {A : Nat → Prop} {tys : List (ClassId × FieldType)} {ws wc : va_W} {X : XT} {S : Type}
theorem PC_at (hK : va_K D cl tys s) (hP : va_P D cl ws H) (hD : va_D A ws) (hS : va_S A s.heap H locs) (hA : ∀ q, s.heap.size ≤ q → A q) (hXO : XOK X) (hX : X A s s.heap) (isC : List Nat) (hn : va_nd isC = true) (hC : isC.map (fun i => ws[i]?) = wc.map some) {As : List Value} : ∀ U : State, U.heap = H → s.WarmedH U.vm → PC D cl tys X As wc H.size As.toArray U := fun U hU hW =>
  ⟨rfl, by rw [hU], by rw [hU]; exact va_P_map hP isC hC, va_K.moved hW.alike hK, (hD.sub isC hn hC).weaken (fun _ _ _ _ => trivial), by
    rw [hU]
    exact hXO.2.2.1 _ s U _ hW (hXO.1 _ _ _ _ (hXO.2.1 _ _ _ _ hX hS.2.1) (va_free hD hS hA isC hC))⟩
theorem preV (hK : va_K D cl tys s) (hP : va_P D cl ws H) (hD : va_D A ws) (hS : va_S A s.heap H locs) (hA : ∀ q, s.heap.size ≤ q → A q) (hXO : XOK X) (hX : X A s s.heap) (isC : List Nat) (hn : va_nd isC = true) (hC : isC.map (fun i => ws[i]?) = wc.map some) {b : Nat} {As : List Value} (k : Nat) {ci : Nat} {fs : List Value} {q : vw_C} (hrv : wc[k]? = some (b, .inr (ci, fs))) (hc : cl[ci]? = some q) : PreV s H q.1 b (PC D cl tys X (.ref b :: As) wc H.size) As :=
  ⟨PC_blind hXO, va_recv hK (va_P_map hP isC hC) hc hrv, PC_at hK hP hD hS hA hXO hX isC hn hC⟩
theorem preS (hK : va_K D cl tys s) (hP : va_P D cl ws H) (hD : va_D A ws) (hS : va_S A s.heap H locs) (hA : ∀ q, s.heap.size ≤ q → A q) (hXO : XOK X) (hX : X A s s.heap) (isC : List Nat) (hn : va_nd isC = true) (hC : isC.map (fun i => ws[i]?) = wc.map some) {As : List Value} : PreS s H (PC D cl tys X As wc H.size) As :=
  ⟨PC_blind hXO, PC_at hK hP hD hS hA hXO hX isC hn hC⟩
theorem cv_v {post : S → Prop} {w1 : S → va_W} {a : Array Value} (hr : va_Run p l e R s m args below meth c H locs cells slots 0 0 (F0 m pc ls st0) rest (QV D cl tys post w1 (va_A wc H.size) a) (va_A wc H.size)) (hP : va_P D cl ws H) (hD : va_D A ws) (hS : va_S A s.heap H locs) (hA : ∀ q, s.heap.size ≤ q → A q) (isC isR : List Nat) (hC : isC.map (fun i => ws[i]?) = wc.map some) (wn : S → va_W) (h1 : ∀ u, isC.map (fun i => (wn u)[i]?) = (w1 u).map some) (wr : va_W) (hR : isR.map (fun i => ws[i]?) = wr.map some) (h2 : ∀ u, isR.map (fun i => (wn u)[i]?) = wr.map some) (ads : List Nat) (h3a : ws.map Prod.fst = ads) (h3 : ∀ u, (wn u).map Prod.fst = ads) (h4 : ∀ u, (List.range (wn u).length).all (fun k => isC.contains k || (isR.contains k && !isC.contains k)) = true)
    (kk : ∀ (u : S) (H1 : Heap) (locs1 : List Loc), post u → va_P D cl (wn u) H1 → va_D A (wn u) → va_S A s.heap H1 locs1 → W p l e R s m args below meth c H1 locs1 cells slots Q (F0 m (pc + 3) ls rest)) : W p l e R s m args below meth c H locs cells slots Q (F0 m pc ls st0) := by
  have hF := va_free hD hS hA isC hC
  refine va_callv hr hS (fun q _ h => hF q h) hF (fun u t H1 locs1 ht hvm hp hB hz hk hS1 => ?_)
  obtain ⟨hP1, hK1, hD1⟩ := hB
  rw [ht] at hP1
  obtain ⟨hP2, hD2⟩ := va_joinW hP hD isC isR hC (h1 u) ((h2 u).trans hR.symm) ((h3 u).trans h3a.symm) (h4 u) hk hP1
  exact kk u H1 locs1 hp hP2 hD2 hS1
theorem cv_i {post : Int → S → Prop} {w1 : S → va_W} {a : Array Value} (hr : va_Run p l e R s m args below meth c H locs cells slots 0 0 (F0 m pc ls st0) rest (QI D cl tys post w1 (va_A wc H.size) a) (va_A wc H.size)) (hP : va_P D cl ws H) (hD : va_D A ws) (hS : va_S A s.heap H locs) (hA : ∀ q, s.heap.size ≤ q → A q) (isC isR : List Nat) (hC : isC.map (fun i => ws[i]?) = wc.map some) (wn : S → va_W) (h1 : ∀ u, isC.map (fun i => (wn u)[i]?) = (w1 u).map some) (wr : va_W) (hR : isR.map (fun i => ws[i]?) = wr.map some) (h2 : ∀ u, isR.map (fun i => (wn u)[i]?) = wr.map some) (ads : List Nat) (h3a : ws.map Prod.fst = ads) (h3 : ∀ u, (wn u).map Prod.fst = ads) (h4 : ∀ u, (List.range (wn u).length).all (fun k => isC.contains k || (isR.contains k && !isC.contains k)) = true)
    (kk : ∀ (z : Int) (u : S) (H1 : Heap) (locs1 : List Loc), post z u → va_P D cl (wn u) H1 → va_D A (wn u) → va_S A s.heap H1 locs1 → W p l e R s m args below meth c H1 locs1 cells slots Q (F0 m (pc + 3) ls (.int (iI z) :: rest))) : W p l e R s m args below meth c H locs cells slots Q (F0 m pc ls st0) := by
  have hF := va_free hD hS hA isC hC
  refine va_calli hr hS (fun q _ h => hF q h) hF (fun r u t H1 locs1 ht hvm hp hB hz hk hS1 => ?_)
  obtain ⟨z, rfl, hp⟩ := hp
  obtain ⟨hP1, hK1, hD1⟩ := hB
  rw [ht] at hP1
  obtain ⟨hP2, hD2⟩ := va_joinW hP hD isC isR hC (h1 u) ((h2 u).trans hR.symm) ((h3 u).trans h3a.symm) (h4 u) hk hP1
  exact kk z u H1 locs1 hp hP2 hD2 hS1
theorem cv_l {post : Int → S → Prop} {w1 : S → va_W} {a : Array Value} (hr : va_Run p l e R s m args below meth c H locs cells slots 0 0 (F0 m pc ls st0) rest (QL D cl tys post w1 (va_A wc H.size) a) (va_A wc H.size)) (hP : va_P D cl ws H) (hD : va_D A ws) (hS : va_S A s.heap H locs) (hA : ∀ q, s.heap.size ≤ q → A q) (isC isR : List Nat) (hC : isC.map (fun i => ws[i]?) = wc.map some) (wn : S → va_W) (h1 : ∀ u, isC.map (fun i => (wn u)[i]?) = (w1 u).map some) (wr : va_W) (hR : isR.map (fun i => ws[i]?) = wr.map some) (h2 : ∀ u, isR.map (fun i => (wn u)[i]?) = wr.map some) (ads : List Nat) (h3a : ws.map Prod.fst = ads) (h3 : ∀ u, (wn u).map Prod.fst = ads) (h4 : ∀ u, (List.range (wn u).length).all (fun k => isC.contains k || (isR.contains k && !isC.contains k)) = true)
    (kk : ∀ (z : Int) (u : S) (H1 : Heap) (locs1 : List Loc), post z u → va_P D cl (wn u) H1 → va_D A (wn u) → va_S A s.heap H1 locs1 → W p l e R s m args below meth c H1 locs1 cells slots Q (F0 m (pc + 3) ls (.long (iL z) :: rest))) : W p l e R s m args below meth c H locs cells slots Q (F0 m pc ls st0) := by
  have hF := va_free hD hS hA isC hC
  refine va_calll hr hS (fun q _ h => hF q h) hF (fun r u t H1 locs1 ht hvm hp hB hz hk hS1 => ?_)
  obtain ⟨z, rfl, hp⟩ := hp
  obtain ⟨hP1, hK1, hD1⟩ := hB
  rw [ht] at hP1
  obtain ⟨hP2, hD2⟩ := va_joinW hP hD isC isR hC (h1 u) ((h2 u).trans hR.symm) ((h3 u).trans h3a.symm) (h4 u) hk hP1
  exact kk z u H1 locs1 hp hP2 hD2 hS1
theorem cv_r {post : Nat → S → Prop} {w1 : S → va_W} {a : Array Value} (hr : va_Run p l e R s m args below meth c H locs cells slots 0 0 (F0 m pc ls st0) rest (QR D cl tys post w1 (va_A wc H.size) a) (va_A wc H.size)) (hP : va_P D cl ws H) (hD : va_D A ws) (hS : va_S A s.heap H locs) (hA : ∀ q, s.heap.size ≤ q → A q) (isC isR : List Nat) (hC : isC.map (fun i => ws[i]?) = wc.map some) (wn : S → va_W) (h1 : ∀ u, isC.map (fun i => (wn u)[i]?) = (w1 u).map some) (wr : va_W) (hR : isR.map (fun i => ws[i]?) = wr.map some) (h2 : ∀ u, isR.map (fun i => (wn u)[i]?) = wr.map some) (ads : List Nat) (h3a : ws.map Prod.fst = ads) (h3 : ∀ u, (wn u).map Prod.fst = ads) (h4 : ∀ u, (List.range (wn u).length).all (fun k => isC.contains k || (isR.contains k && !isC.contains k)) = true)
    (kk : ∀ (b : Nat) (u : S) (H1 : Heap) (locs1 : List Loc), post b u → va_P D cl (wn u) H1 → va_D A (wn u) → va_S A s.heap H1 locs1 → W p l e R s m args below meth c H1 locs1 cells slots Q (F0 m (pc + 3) ls (.ref b :: rest))) : W p l e R s m args below meth c H locs cells slots Q (F0 m pc ls st0) := by
  have hF := va_free hD hS hA isC hC
  refine va_callr hr hS (fun q _ h => hF q h) hF (fun u b t H1 locs1 ht hvm hp hB hz hk hS1 => ?_)
  obtain ⟨hpost, hP1, hK1, hD1⟩ := hB
  rw [ht] at hP1
  obtain ⟨hP2, hD2⟩ := va_joinW hP hD isC isR hC (h1 u) ((h2 u).trans hR.symm) ((h3 u).trans h3a.symm) (h4 u) hk hP1
  exact kk b u H1 locs1 hpost hP2 hD2 hS1
theorem rt_v {post : S → Prop} {w1 : S → va_W} (hx : p.tables.exec = Jvm.exec) (hb : c.code = cc) (hr : meth.sig.returnType = none) (hlocks : meth.locks = false) (hK : va_K D cl tys s) (hS : va_S A s.heap H locs) (d : decode cc pc = .ok (.return_, 1)) (u : S) (hP : va_P D cl (w1 u) H) (hD : va_D A (w1 u)) (hp : post u) : W p l e R s m args below meth c H locs cells slots (MQ below (QV D cl tys post w1 A) args s cells slots A) (F0 m pc ls []) :=
  W.vret hx hb hr (fun t ht hW => ⟨⟨u, rfl, hp, by rw [ht]; exact hP, va_K.moved hW.alike hK, hD⟩, hS.F ht⟩) hS.2.2 d hlocks
theorem rt_i {post : Int → S → Prop} {w1 : S → va_W} {z : Int} (hx : p.tables.exec = Jvm.exec) (hb : c.code = cc) (hr : meth.sig.returnType = some .int) (hlocks : meth.locks = false) (hK : va_K D cl tys s) (hS : va_S A s.heap H locs) (d : decode cc pc = .ok (.ireturn, 1)) (u : S) (hP : va_P D cl (w1 u) H) (hD : va_D A (w1 u)) (hp : post z u) : W p l e R s m args below meth c H locs cells slots (MQ below (QI D cl tys post w1 A) args s cells slots A) (F0 m pc ls [.int (iI z)]) :=
  W.iret hx hb hr (fun t ht hW => ⟨⟨iI z, u, rfl, ⟨z, rfl, hp⟩, by rw [ht]; exact hP, va_K.moved hW.alike hK, hD⟩, hS.F ht⟩) hS.2.2 d hlocks
theorem rt_z {post : Int → S → Prop} {w1 : S → va_W} {z : Int} {ty : FieldType} (hx : p.tables.exec = Jvm.exec) (hb : c.code = cc) (hr : meth.sig.returnType = some ty) (hlocks : meth.locks = false) (hK : va_K D cl tys s) (hS : va_S A s.heap H locs) (d : decode cc pc = .ok (.ireturn, 1)) (hn : narrow ty (.int (iI z)) = .int (iI z)) (u : S) (hP : va_P D cl (w1 u) H) (hD : va_D A (w1 u)) (hp : post z u) : W p l e R s m args below meth c H locs cells slots (MQ below (QI D cl tys post w1 A) args s cells slots A) (F0 m pc ls [.int (iI z)]) :=
  W.zret hx hb hr hn (fun t ht hW => ⟨⟨iI z, u, rfl, ⟨z, rfl, hp⟩, by rw [ht]; exact hP, va_K.moved hW.alike hK, hD⟩, hS.F ht⟩) hS.2.2 d hlocks
theorem rt_l {post : Int → S → Prop} {w1 : S → va_W} {z : Int} (hx : p.tables.exec = Jvm.exec) (hb : c.code = cc) (hr : meth.sig.returnType = some .long) (hlocks : meth.locks = false) (hK : va_K D cl tys s) (hS : va_S A s.heap H locs) (d : decode cc pc = .ok (.lreturn, 1)) (u : S) (hP : va_P D cl (w1 u) H) (hD : va_D A (w1 u)) (hp : post z u) : W p l e R s m args below meth c H locs cells slots (MQ below (QL D cl tys post w1 A) args s cells slots A) (F0 m pc ls [.long (iL z)]) :=
  W.lret hx hb hr (fun t ht hW => ⟨⟨iL z, u, rfl, ⟨z, rfl, hp⟩, by rw [ht]; exact hP, va_K.moved hW.alike hK, hD⟩, hS.F ht⟩) hS.2.2 d hlocks
theorem rt_r {post : Nat → S → Prop} {w1 : S → va_W} {b : Nat} {rt : FieldType} (hx : p.tables.exec = Jvm.exec) (hb : c.code = cc) (hr : meth.sig.returnType = some rt) (hrt : (∃ n, rt = .object n) ∨ ∃ t, rt = .array t) (hlocks : meth.locks = false) (hK : va_K D cl tys s) (hS : va_S A s.heap H locs) (d : decode cc pc = .ok (.areturn, 1)) (u : S) (hP : va_P D cl (w1 u) H) (hD : va_D A (w1 u)) (hp : post b u) : W p l e R s m args below meth c H locs cells slots (MQ below (QR D cl tys post w1 A) args s cells slots A) (F0 m pc ls [.ref b]) :=
  W.aret hx hb hr hrt (Or.inr ⟨b, rfl⟩) (fun t ht hW => ⟨⟨u, b, rfl, trivial, hp, by rw [ht]; exact hP, va_K.moved hW.alike hK, hD⟩, hS.F ht⟩) hS.2.2 d hlocks
/-- a contract out of a walk of its body -/
theorem met_of {y : MethodName} {yws ws' : List Cond} {rm : Room} {maxL : Nat} {ret : Option FieldType} {av : List Value} {sz : Nat} {Qc : (Nat → Prop) → Array Value → State → Outcome → State → Prop} (hXO : XOK X) (hy : plainName y.cls = true) (hw : yws = Cond.code y cc maxL ret :: ws') (hav : (lg_sl av).length ≤ maxL)
    (body : ∀ (p : Program) (e : Env) (s : State) (m : MethodId) (below : List Frame) (meth : Method) (c : Code) (ls : Array Slot) (A : Nat → Prop), p.tables.exec = Jvm.exec → c.code = cc → meth.sig.returnType = ret → c.maxLocals = maxL → s.vm.findClass y.cls = some m.cls → (∀ w ∈ ws', w.before av.toArray s = true) → meth.locks = false → meth.name = y.name → va_K D cl tys s → va_P D cl ws s.heap → va_D A ws → (∀ q, s.heap.size ≤ q → A q) → X A s s.heap → va_S A s.heap s.heap [] → lv_has ls maxL (lv_args 0 av) →
      W p l e rm s m av.toArray below meth c s.heap [] 0 0 (MQ below (Qc A) av.toArray s 0 0 A) (F0 m 0 ls [])) : Met l y yws rm (PC D cl tys X av ws sz) (Qc (va_A ws sz)) 0 0 (va_A ws sz) := by
  refine Met.ofW (cc := cc) (maxL := maxL) (ret := ret) hy hw ?_
  intro p e s m args below meth c s₁ B hml hv
  obtain ⟨rfl, hsz, hP, hK, hD0, hX⟩ := hv
  subst hsz
  have hl := lv_entry av (n := maxL) hav
  rw [lg_entry_eq]
  exact body p e s m below meth c _ _ B.exec B.bytes B.returns hml (findClass_of_methodNamed B.named) (fun w hw' => atoms_spec (ws := yws) B.pre w (by rw [hw]; exact List.mem_cons_of_mem _ hw')) B.notSynchronized (name_of_methodNamed B.named B.method).1 hK hP hD0.self (fun q h => Or.inr h) hX va_S.rf hl
theorem met_ofF {y : MethodName} {yws ws' : List Cond} {rm : Room} {maxL : Nat} {ret : Option FieldType} {av : List Value} {sz : Nat} {Qc : (Nat → Prop) → Array Value → State → Outcome → State → Prop} (hXO : XOK X) (hy : plainFor y = true) (hw : yws = Cond.code y cc maxL ret :: ws') (hav : (lg_sl av).length ≤ maxL)
    (body : ∀ (p : Program) (e : Env) (s : State) (m : MethodId) (below : List Frame) (meth : Method) (c : Code) (ls : Array Slot) (A : Nat → Prop), p.tables.exec = Jvm.exec → c.code = cc → meth.sig.returnType = ret → c.maxLocals = maxL → s.vm.findClass y.cls = some m.cls → (∀ w ∈ ws', w.before av.toArray s = true) → meth.locks = false → meth.name = y.name → va_K D cl tys s → va_P D cl ws s.heap → va_D A ws → (∀ q, s.heap.size ≤ q → A q) → X A s s.heap → va_S A s.heap s.heap [] → lv_has ls maxL (lv_args 0 av) →
      W p l e rm s m av.toArray below meth c s.heap [] 0 0 (MQ below (Qc A) av.toArray s 0 0 A) (F0 m 0 ls [])) : Met l y yws rm (PC D cl tys X av ws sz) (Qc (va_A ws sz)) 0 0 (va_A ws sz) := by
  refine va_MetF (cc := cc) (maxL := maxL) (ret := ret) hy hw ?_
  intro p e s m args below meth c s₁ B hml hv
  obtain ⟨rfl, hsz, hP, hK, hD0, hX⟩ := hv
  subst hsz
  have hl := lv_entry av (n := maxL) hav
  rw [lg_entry_eq]
  exact body p e s m below meth c _ _ B.exec B.bytes B.returns hml (findClass_of_methodNamed B.named) (fun w hw' => atoms_spec (ws := yws) B.pre w (by rw [hw]; exact List.mem_cons_of_mem _ hw')) B.notSynchronized (name_of_methodNamed B.named B.method).1 hK hP hD0.self (fun q h => Or.inr h) hX va_S.rf hl
end ST
