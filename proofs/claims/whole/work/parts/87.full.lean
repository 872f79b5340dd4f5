/-! worlds of which the most part is out of sight: their cells may be put in another order -/
theorem va_P_mem {D : va_G} {cl : List vw_C} {ws : va_W} {H : Heap} : va_P D cl ws H ↔ ∀ q ∈ ws, va_at D cl q H := by
  constructor
  · intro h q hq
    obtain ⟨k, hk⟩ := List.getElem?_of_mem hq
    exact h k q hk
  · intro h k q hk
    exact h q (List.mem_of_getElem? hk)
theorem va_D_pw {A : Nat → Prop} : ∀ ws : va_W, va_D A ws ↔ ws.Pairwise (fun x y => x.1 ≠ y.1) ∧ ∀ q ∈ ws, A q.1
  | [] => ⟨fun _ => ⟨List.Pairwise.nil, fun q h => by cases h⟩, fun _ => ⟨fun i j x y h => by simp at h, fun k q h => by simp at h⟩⟩
  | q :: ws => by
    rw [List.pairwise_cons]
    have ih := va_D_pw (A := A) ws
    constructor
    · rintro ⟨h1, h2⟩
      have hd : va_D A ws := ⟨fun i j x y hi hj e => Nat.succ.inj (h1 (i + 1) (j + 1) x y hi hj e), fun k x hk => h2 (k + 1) x hk⟩
      obtain ⟨p1, p2⟩ := ih.mp hd
      refine ⟨⟨fun r hr e => ?_, p1⟩, fun x hx => ?_⟩
      · obtain ⟨k, hk⟩ := List.getElem?_of_mem hr
        have := h1 0 (k + 1) q r rfl hk e
        omega
      · rcases List.mem_cons.mp hx with rfl | hx
        · exact h2 0 _ rfl
        · exact p2 x hx
    · rintro ⟨⟨h1, h2⟩, h3⟩
      have hd := ih.mpr ⟨h2, fun x hx => h3 x (List.mem_cons_of_mem _ hx)⟩
      refine ⟨fun i j x y hi hj e => ?_, fun k x hk => h3 x (List.mem_of_getElem? hk)⟩
      cases i with
      | zero =>
        have hx : q = x := Option.some.inj hi
        cases j with
        | zero => rfl
        | succ j => exact absurd e (by rw [← hx]; exact h1 y (List.mem_of_getElem? (show ws[j]? = some y from hj)))
      | succ i =>
        cases j with
        | zero =>
          have hy : q = y := Option.some.inj hj
          exact absurd e.symm (by rw [← hy]; exact h1 x (List.mem_of_getElem? (show ws[i]? = some x from hi)))
        | succ j => exact congrArg (· + 1) (hd.1 i j x y hi hj e)
theorem va_P_pm {D : va_G} {cl : List vw_C} {ws ws' : va_W} {H : Heap} (h : ws.Perm ws') (hP : va_P D cl ws H) : va_P D cl ws' H := va_P_mem.mpr fun q hq => va_P_mem.mp hP q (h.mem_iff.mpr hq)
theorem va_D_pm {A : Nat → Prop} {ws ws' : va_W} (h : ws.Perm ws') (hD : va_D A ws) : va_D A ws' := by
  rw [va_D_pw] at hD ⊢
  exact ⟨(h.pairwise_iff (fun e => Ne.symm e)).mp hD.1, fun q hq => hD.2 q (h.mem_iff.mpr hq)⟩
theorem fm_c {V U : Nat → va_W} : ∀ l : List Nat, (∀ q ∈ l, V q = U q) → l.flatMap V = l.flatMap U
  | [], _ => rfl
  | a :: l, h => by
    rw [List.flatMap_cons, List.flatMap_cons, h a List.mem_cons_self, fm_c l (fun q hq => h q (List.mem_cons_of_mem _ hq))]
def upW (V : Nat → va_W) (p : Nat) (w : va_W) : Nat → va_W := fun q => if q = p then w else V q
theorem upW_s {V : Nat → va_W} {p : Nat} {w : va_W} : upW V p w p = w := if_pos rfl
theorem upW_n {V : Nat → va_W} {p q : Nat} {w : va_W} (h : q ≠ p) : upW V p w q = V q := if_neg h
theorem pool_f {V : Nat → va_W} {l : List Nat} {p : Nat} (h : p ∈ l) : (l.flatMap V).Perm (V p ++ (l.erase p).flatMap V) := by
  have := (List.perm_cons_erase h).flatMap_right V
  rwa [List.flatMap_cons] at this
theorem pool_u {V : Nat → va_W} {l : List Nat} {p : Nat} {w : va_W} (h : p ∈ l) (hn : l.Nodup) : (w ++ (l.erase p).flatMap V).Perm (l.flatMap (upW V p w)) := by
  have := (pool_f (V := upW V p w) h).symm
  rwa [upW_s, fm_c (U := V) (l.erase p) (fun q hq => upW_n ((hn.mem_erase_iff).mp hq).1)] at this
/-! a call that is given some of the cells in sight -/
theorem va_joinT {A0 : Nat → Prop} {D : va_G} {cl : List vw_C} {we tl wc w1 wne : va_W} {H H1 : Heap} (hP : va_P D cl (we ++ tl) H) (hD : va_D A0 (we ++ tl)) (isC isR : List Nat) (hC : isC.map (fun i => we[i]?) = wc.map some) (h1 : isC.map (fun i => wne[i]?) = w1.map some) (h2 : isR.map (fun i => wne[i]?) = isR.map (fun i => we[i]?)) (h3 : wne.map Prod.fst = we.map Prod.fst) (h4 : (List.range wne.length).all (fun k => isC.contains k || (isR.contains k && !isC.contains k)) = true)
    (hk : ∀ q : Nat, q < H.size → ¬ va_A wc H.size q → H1[q]? = H[q]?) (hP1 : va_P D cl w1 H1) : va_P D cl (wne ++ tl) H1 ∧ va_D A0 (wne ++ tl) := by
  have hPe : va_P D cl we H := va_P_mem.mpr fun q hq => va_P_mem.mp hP q (List.mem_append_left _ hq)
  have hDe : va_D A0 we := by
    rw [va_D_pw] at hD ⊢
    exact ⟨(List.pairwise_append.mp hD.1).1, fun q hq => hD.2 q (List.mem_append_left _ hq)⟩
  have hap := (List.pairwise_append.mp ((va_D_pw _).mp hD).1).2.2
  obtain ⟨hPn, -⟩ := va_joinW hPe hDe isC isR hC h1 h2 h3 h4 hk hP1
  refine ⟨va_P_mem.mpr fun q hq => ?_, va_D_fst (by rw [List.map_append, List.map_append, h3]) hD⟩
  rcases List.mem_append.mp hq with z | z
  · exact va_P_mem.mp hPn q z
  · have hat := va_P_mem.mp hP q (List.mem_append_right _ z)
    refine hat.kept (hk q.1 hat.lt ?_)
    rintro (⟨j, e, hj⟩ | hz)
    · obtain ⟨i, g1, g2⟩ := map_key hC j _ hj
      exact hap _ (List.mem_of_getElem? g2) q z rfl
    · exact absurd hat.lt (Nat.not_lt.mpr hz)
section ST2
variable {p : Program} {l : Launch} {e : Env} {R : Room} {s : State} {m : MethodId} {args : Array Value} {below : List Frame} {meth : Method} {c : Code} {H : Heap} {locs : List Loc} {cells slots : Nat} {Q : State → Prop} {cc : ByteArray} {pc : Nat} {ls : Array Slot} {rest st0 : List Value} {D : va_G} {cl : List vw_C} {A : Nat → Prop} {tys : List (ClassId × FieldType)} {ws we tl wc : va_W} {X : XT} {S : Type}
theorem map_app {isC : List Nat} (hC : isC.map (fun i => we[i]?) = wc.map some) : isC.map (fun i => (we ++ tl)[i]?) = wc.map some := by
  rw [← hC]
  apply List.map_congr_left
  intro i hi
  have h0 : (isC.map (fun i => we[i]?)) = wc.map some := hC
  obtain ⟨k, hk⟩ := List.getElem?_of_mem hi
  have h1 : (isC.map (fun i => we[i]?))[k]? = some (we[i]?) := by rw [List.getElem?_map, hk]; rfl
  rw [h0, List.getElem?_map] at h1
  cases hw : wc[k]? with
  | none => rw [hw] at h1; cases h1
  | some q =>
    rw [hw] at h1
    have h2 : we[i]? = some q := (Option.some.inj h1).symm
    have h3 := (List.getElem?_eq_some_iff.mp h2).1
    show (we ++ tl)[i]? = we[i]?
    exact List.getElem?_append_left h3
theorem cvT_v {post : S → Prop} {w1 : S → va_W} {a : Array Value} (hr : va_Run p l e R s m args below meth c H locs cells slots 0 0 (F0 m pc ls st0) rest (QV D cl tys post w1 (va_A wc H.size) a) (va_A wc H.size)) (hP : va_P D cl (we ++ tl) H) (hD : va_D A (we ++ tl)) (hS : va_S A s.heap H locs) (hA : ∀ q, s.heap.size ≤ q → A q) (isC isR : List Nat) (hC : isC.map (fun i => we[i]?) = wc.map some) (wn : S → va_W) (h1 : ∀ u, isC.map (fun i => (wn u)[i]?) = (w1 u).map some) (wr : va_W) (hR : isR.map (fun i => we[i]?) = wr.map some) (h2 : ∀ u, isR.map (fun i => (wn u)[i]?) = wr.map some) (ads : List Nat) (h3a : we.map Prod.fst = ads) (h3 : ∀ u, (wn u).map Prod.fst = ads) (h4 : ∀ u, (List.range (wn u).length).all (fun k => isC.contains k || (isR.contains k && !isC.contains k)) = true)
    (kk : ∀ (u : S) (H1 : Heap) (locs1 : List Loc), post u → va_P D cl (wn u ++ tl) H1 → va_D A (wn u ++ tl) → va_S A s.heap H1 locs1 → W p l e R s m args below meth c H1 locs1 cells slots Q (F0 m (pc + 3) ls rest)) : W p l e R s m args below meth c H locs cells slots Q (F0 m pc ls st0) := by
  have hF := va_free hD hS hA isC (map_app hC)
  refine va_callv hr hS (fun q _ h => hF q h) hF (fun u t H1 locs1 ht hvm hp hB hz hk hS1 => ?_)
  obtain ⟨hP1, hK1, hD1⟩ := hB
  rw [ht] at hP1
  obtain ⟨hP2, hD2⟩ := va_joinT hP hD isC isR hC (h1 u) ((h2 u).trans hR.symm) ((h3 u).trans h3a.symm) (h4 u) hk hP1
  exact kk u H1 locs1 hp hP2 hD2 hS1
theorem cvT_i {post : Int → S → Prop} {w1 : S → va_W} {a : Array Value} (hr : va_Run p l e R s m args below meth c H locs cells slots 0 0 (F0 m pc ls st0) rest (QI D cl tys post w1 (va_A wc H.size) a) (va_A wc H.size)) (hP : va_P D cl (we ++ tl) H) (hD : va_D A (we ++ tl)) (hS : va_S A s.heap H locs) (hA : ∀ q, s.heap.size ≤ q → A q) (isC isR : List Nat) (hC : isC.map (fun i => we[i]?) = wc.map some) (wn : S → va_W) (h1 : ∀ u, isC.map (fun i => (wn u)[i]?) = (w1 u).map some) (wr : va_W) (hR : isR.map (fun i => we[i]?) = wr.map some) (h2 : ∀ u, isR.map (fun i => (wn u)[i]?) = wr.map some) (ads : List Nat) (h3a : we.map Prod.fst = ads) (h3 : ∀ u, (wn u).map Prod.fst = ads) (h4 : ∀ u, (List.range (wn u).length).all (fun k => isC.contains k || (isR.contains k && !isC.contains k)) = true)
    (kk : ∀ (z : Int) (u : S) (H1 : Heap) (locs1 : List Loc), post z u → va_P D cl (wn u ++ tl) H1 → va_D A (wn u ++ tl) → va_S A s.heap H1 locs1 → W p l e R s m args below meth c H1 locs1 cells slots Q (F0 m (pc + 3) ls (.int (iI z) :: rest))) : W p l e R s m args below meth c H locs cells slots Q (F0 m pc ls st0) := by
  have hF := va_free hD hS hA isC (map_app hC)
  refine va_calli hr hS (fun q _ h => hF q h) hF (fun r u t H1 locs1 ht hvm hp hB hz hk hS1 => ?_)
  obtain ⟨z, rfl, hp⟩ := hp
  obtain ⟨hP1, hK1, hD1⟩ := hB
  rw [ht] at hP1
  obtain ⟨hP2, hD2⟩ := va_joinT hP hD isC isR hC (h1 u) ((h2 u).trans hR.symm) ((h3 u).trans h3a.symm) (h4 u) hk hP1
  exact kk z u H1 locs1 hp hP2 hD2 hS1
/-! a call that is given them all -/
theorem wc_all : va_P D cl ws H → va_D A ws → (∀ q, va_A ws H.size q → A q ∨ H.size ≤ q) := fun _ hD q h => by
  rcases h with ⟨k, e, hk⟩ | h
  · exact Or.inl (hD.2 k _ hk)
  · exact Or.inr h
theorem PC_all (hK : va_K D cl tys s) (hP : va_P D cl ws H) (hD : va_D A ws) (hS : va_S A s.heap H locs) (hA : ∀ q, s.heap.size ≤ q → A q) (hXO : XOK X) (hX : X A s s.heap) {As : List Value} : ∀ U : State, U.heap = H → s.WarmedH U.vm → PC D cl tys X As ws H.size As.toArray U := fun U hU hW =>
  ⟨rfl, by rw [hU], by rw [hU]; exact hP, va_K.moved hW.alike hK, hD.weaken (fun _ _ _ _ => trivial), by
    rw [hU]
    exact hXO.2.2.1 _ s U _ hW (hXO.1 _ _ _ _ (hXO.2.1 _ _ _ _ hX hS.2.1) (fun q h => by
      rcases h with ⟨k, e, hk⟩ | h
      · exact hD.2 k _ hk
      · exact hA q (Nat.le_trans hS.1 h)))⟩
theorem preVA (hK : va_K D cl tys s) (hP : va_P D cl ws H) (hD : va_D A ws) (hS : va_S A s.heap H locs) (hA : ∀ q, s.heap.size ≤ q → A q) (hXO : XOK X) (hX : X A s s.heap) {b : Nat} {As : List Value} (k : Nat) {ci : Nat} {fs : List Value} {q : vw_C} (hrv : ws[k]? = some (b, .inr (ci, fs))) (hc : cl[ci]? = some q) : PreV s H q.1 b (PC D cl tys X (.ref b :: As) ws H.size) As :=
  ⟨PC_blind hXO, va_recv hK hP hc hrv, PC_all hK hP hD hS hA hXO hX⟩
theorem cvA_v {post : S → Prop} {w1 : S → va_W} {a : Array Value} (hr : va_Run p l e R s m args below meth c H locs cells slots 0 0 (F0 m pc ls st0) rest (QV D cl tys post w1 (va_A ws H.size) a) (va_A ws H.size)) (hD : va_D A ws) (hS : va_S A s.heap H locs) (hA : ∀ q, s.heap.size ≤ q → A q)
    (kk : ∀ (u : S) (H1 : Heap) (locs1 : List Loc), post u → va_P D cl (w1 u) H1 → va_D A (w1 u) → va_S A s.heap H1 locs1 → W p l e R s m args below meth c H1 locs1 cells slots Q (F0 m (pc + 3) ls rest)) : W p l e R s m args below meth c H locs cells slots Q (F0 m pc ls st0) := by
  have hF : ∀ q, va_A ws H.size q → A q := fun q h => by
    rcases h with ⟨k, e, hk⟩ | h
    · exact hD.2 k _ hk
    · exact hA q (Nat.le_trans hS.1 h)
  refine va_callv hr hS (fun q _ h => hF q h) hF (fun u t H1 locs1 ht hvm hp hB hz hk hS1 => ?_)
  obtain ⟨hP1, hK1, hD1⟩ := hB
  rw [ht] at hP1
  exact kk u H1 locs1 hp hP1 (hD1.weaken (fun k q hq h => hF _ (hD1.2 k q hq))) hS1
theorem cvA_i {post : Int → S → Prop} {w1 : S → va_W} {a : Array Value} (hr : va_Run p l e R s m args below meth c H locs cells slots 0 0 (F0 m pc ls st0) rest (QI D cl tys post w1 (va_A ws H.size) a) (va_A ws H.size)) (hD : va_D A ws) (hS : va_S A s.heap H locs) (hA : ∀ q, s.heap.size ≤ q → A q)
    (kk : ∀ (z : Int) (u : S) (H1 : Heap) (locs1 : List Loc), post z u → va_P D cl (w1 u) H1 → va_D A (w1 u) → va_S A s.heap H1 locs1 → W p l e R s m args below meth c H1 locs1 cells slots Q (F0 m (pc + 3) ls (.int (iI z) :: rest))) : W p l e R s m args below meth c H locs cells slots Q (F0 m pc ls st0) := by
  have hF : ∀ q, va_A ws H.size q → A q := fun q h => by
    rcases h with ⟨k, e, hk⟩ | h
    · exact hD.2 k _ hk
    · exact hA q (Nat.le_trans hS.1 h)
  refine va_calli hr hS (fun q _ h => hF q h) hF (fun r u t H1 locs1 ht hvm hp hB hz hk hS1 => ?_)
  obtain ⟨z, rfl, hp⟩ := hp
  obtain ⟨hP1, hK1, hD1⟩ := hB
  rw [ht] at hP1
  exact kk z u H1 locs1 hp hP1 (hD1.weaken (fun k q hq h => hF _ (hD1.2 k q hq))) hS1
theorem cvA_r {post : Nat → S → Prop} {w1 : S → va_W} {a : Array Value} (hr : va_Run p l e R s m args below meth c H locs cells slots 0 0 (F0 m pc ls st0) rest (QR D cl tys post w1 (va_A ws H.size) a) (va_A ws H.size)) (hD : va_D A ws) (hS : va_S A s.heap H locs) (hA : ∀ q, s.heap.size ≤ q → A q)
    (kk : ∀ (b : Nat) (u : S) (H1 : Heap) (locs1 : List Loc), post b u → va_P D cl (w1 u) H1 → va_D A (w1 u) → va_S A s.heap H1 locs1 → W p l e R s m args below meth c H1 locs1 cells slots Q (F0 m (pc + 3) ls (.ref b :: rest))) : W p l e R s m args below meth c H locs cells slots Q (F0 m pc ls st0) := by
  have hF : ∀ q, va_A ws H.size q → A q := fun q h => by
    rcases h with ⟨k, e, hk⟩ | h
    · exact hD.2 k _ hk
    · exact hA q (Nat.le_trans hS.1 h)
  refine va_callr hr hS (fun q _ h => hF q h) hF (fun u b t H1 locs1 ht hvm hp hB hz hk hS1 => ?_)
  obtain ⟨hpost, hP1, hK1, hD1⟩ := hB
  rw [ht] at hP1
  exact kk b u H1 locs1 hpost hP1 (hD1.weaken (fun k q hq h => hF _ (hD1.2 k q hq))) hS1
end ST2
