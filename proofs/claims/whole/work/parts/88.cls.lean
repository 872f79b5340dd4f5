/-! the class's own world: the cells in sight, then values and tapes -/
def arR (f : Int → Nat) : Nat → Option Nat := fun j => some (f j)
def upN (f : Int → Nat) (k : Int) (v : Nat) : Int → Nat := fun j => if j = k then v else f j
theorem upN_s {f : Int → Nat} {k : Int} {v : Nat} : upN f k v k = v := if_pos rfl
theorem upN_n {f : Int → Nat} {k j : Int} {v : Nat} (h : j ≠ k) : upN f k v j = f j := if_neg h
theorem up_arR {f : Int → Nat} {k : Int} {v : Nat} (h : 0 ≤ k) : va_up (arR f) k.toNat (some v) = arR (upN f k v) := by
  funext j
  unfold va_up arR upN
  by_cases hj : j = k.toNat
  · rw [if_pos hj, if_pos (by omega)]
  · rw [if_neg hj, if_neg (by omega)]
section ST3
variable {p : Program} {l : Launch} {e : Env} {R : Room} {s : State} {m : MethodId} {args : Array Value} {below : List Frame} {meth : Method} {c : Code} {H H0 : Heap} {locs : List Loc} {cells slots : Nat} {Q : State → Prop} {cc : ByteArray} {pc a : Nat} {ls : Array Slot} {rest : List Value} {D : va_G} {cl : List vw_C} {A : Nat → Prop} {tys : List (ClassId × FieldType)} {ws : va_W}
theorem iv_aald (hx : p.tables.exec = Jvm.exec) (hb : c.code = cc) (hK : va_K D cl tys s) (hP : va_P D cl ws H) (q0 t0 : Nat) {cA : ClassId} {C : String} {n : Nat} {f : Int → Nat} (ha : ws[q0]? = some (a, .inl (cA, n, .inr (.inr (.inr (.inr (arR f))))))) (ht : tys[t0]? = some (cA, .object C)) {z : Int} (hn : n < 2147483648) (d : decode cc pc = .ok (.aaload, 1)) (h0 : 0 ≤ z) (h1 : z < n) (k : W p l e R s m args below meth c H locs cells slots Q (F0 m (pc + 1) ls (.ref (f z) :: rest))) : W p l e R s m args below meth c H locs cells slots Q (F0 m pc ls (.int (iI z) :: .ref a :: rest)) :=
  va_aldq hx hb hK hP q0 t0 ha ht (iI_vp h0 h1 hn) d (by rw [iI_cl h0 (by omega)]; unfold arR; rw [Int.toNat_of_nonneg h0]; exact k)
theorem iv_aast (hx : p.tables.exec = Jvm.exec) (hb : c.code = cc) (hK : va_K D cl tys s) (hP : va_P D cl ws H) (hD : va_D A ws) (hS : va_S A H0 H locs) (q0 t0 qk ci : Nat) {cA : ClassId} {r : vw_C} {n v : Nat} {vs : List Value} {f : Int → Nat} (ha : ws[q0]? = some (a, .inl (cA, n, .inr (.inr (.inr (.inr (arR f))))))) (ht : tys[t0]? = some (cA, .object r.1)) (hv : ws[qk]? = some (v, .inr (ci, vs))) (hc : cl[ci]? = some r) {z : Int} (hn : n < 2147483648) (d : decode cc pc = .ok (.aastore, 1)) (h0 : 0 ≤ z) (h1 : z < n)
    (kk : ∀ (H1 : Heap) (locs1 : List Loc), va_P D cl (ws.set q0 (a, .inl (cA, n, .inr (.inr (.inr (.inr (arR (upN f z v)))))))) H1 → va_D A (ws.set q0 (a, .inl (cA, n, .inr (.inr (.inr (.inr (arR (upN f z v)))))))) → va_S A H0 H1 locs1 → W p l e R s m args below meth c H1 locs1 cells slots Q (F0 m (pc + 1) ls rest)) : W p l e R s m args below meth c H locs cells slots Q (F0 m pc ls (.ref v :: .int (iI z) :: .ref a :: rest)) :=
  va_astq hx hb hK hP hD hS q0 t0 qk ci ha ht hv hc (iI_vp h0 h1 hn) d (fun H1 locs1 hP1 hD1 hS1 => by rw [iI_cl h0 (by omega), up_arR h0] at hP1 hD1; exact kk H1 locs1 hP1 hD1 hS1)
end ST3
abbrev VS : Type := Int × Int × Int × Int × Int × (Int → Int) × (Int → Int)
abbrev TS : Type := (Int → Int) × Int × Int
def tfA (b : Nat) : Int → Nat := fun i => b + 22 + 2 * i.toNat
def sfA (b : Nat) (sg : Int → Nat) : Int → Nat := fun i => b + 38 + 4 * sg i
def rfA (b : Nat) : Int → Nat := fun i => b + 38 + 4 * (20 + i.toNat)
def vcl (dA : Nat → ClassId) (a : Nat) (v : VS) : va_W := [(a, .inr (4, [.int (iI v.1), .ref (a + 1), .int (iI v.2.1), .int (iI v.2.2.1), .ref (a + 3), .int (iI v.2.2.2.1)])), (a + 1, .inr (5, [.ref (a + 2), .int (iI v.2.2.2.2.1)])), (a + 2, .inl (dA 0, 32, .inl (arI v.2.2.2.2.2.2))), (a + 3, .inl (dA 1, 60, .inl (arI v.2.2.2.2.2.1)))]
def tcl (dA : Nat → ClassId) (a : Nat) (v : TS) : va_W := [(a, .inr (2, [.ref (a + 1), .int (iI v.2.1), .int (iI v.2.2)])), (a + 1, .inl (dA 1, 60, .inl (arI v.1)))]
def vpl (dA : Nat → ClassId) (b : Nat) (vs : Nat → VS) (l : List Nat) : va_W := l.flatMap (fun k => vcl dA (b + 38 + 4 * k) (vs k))
def tpl (dA : Nat → ClassId) (b : Nat) (tp : Nat → TS) (l : List Nat) : va_W := l.flatMap (fun k => tcl dA (b + 22 + 2 * k) (tp k))
def tl0 (dA : Nat → ClassId) (b : Nat) (vs : Nat → VS) (tp : Nat → TS) : va_W := vpl dA b vs (List.range 46) ++ tpl dA b tp (List.range 8)
def tV1 (dA : Nat → ClassId) (b : Nat) (vs : Nat → VS) (tp : Nat → TS) (k : Nat) : va_W := vpl dA b vs ((List.range 46).erase k) ++ tpl dA b tp (List.range 8)
def tV2 (dA : Nat → ClassId) (b : Nat) (vs : Nat → VS) (tp : Nat → TS) (k j : Nat) : va_W := vpl dA b vs (((List.range 46).erase k).erase j) ++ tpl dA b tp (List.range 8)
def tT1 (dA : Nat → ClassId) (b : Nat) (vs : Nat → VS) (tp : Nat → TS) (k : Nat) : va_W := vpl dA b vs (List.range 46) ++ tpl dA b tp ((List.range 8).erase k)
def upF {α : Type} (f : Nat → α) (k : Nat) (v : α) : Nat → α := fun j => if j = k then v else f j
theorem upF_s {α : Type} {f : Nat → α} {k : Nat} {v : α} : upF f k v k = v := if_pos rfl
theorem upF_n {α : Type} {f : Nat → α} {k j : Nat} {v : α} (h : j ≠ k) : upF f k v j = f j := if_neg h
theorem nd46 : (List.range 46).Nodup := List.nodup_range
theorem nd8 : (List.range 8).Nodup := List.nodup_range
theorem vpl_u {dA : Nat → ClassId} {b : Nat} {vs : Nat → VS} {l : List Nat} {k : Nat} {v : VS} (h : k ∈ l) (hn : l.Nodup) : (vcl dA (b + 38 + 4 * k) v ++ vpl dA b vs (l.erase k)).Perm (vpl dA b (upF vs k v) l) := by
  have := pool_u (V := fun k => vcl dA (b + 38 + 4 * k) (vs k)) (w := vcl dA (b + 38 + 4 * k) v) h hn
  have e : upW (fun k => vcl dA (b + 38 + 4 * k) (vs k)) k (vcl dA (b + 38 + 4 * k) v) = fun j => vcl dA (b + 38 + 4 * j) (upF vs k v j) := by
    funext j
    unfold upW upF
    by_cases q : j = k
    · rw [if_pos q, if_pos q, q]
    · rw [if_neg q, if_neg q]
  rw [e] at this
  exact this
theorem tpl_u {dA : Nat → ClassId} {b : Nat} {tp : Nat → TS} {l : List Nat} {k : Nat} {v : TS} (h : k ∈ l) (hn : l.Nodup) : (tcl dA (b + 22 + 2 * k) v ++ tpl dA b tp (l.erase k)).Perm (tpl dA b (upF tp k v) l) := by
  have := pool_u (V := fun k => tcl dA (b + 22 + 2 * k) (tp k)) (w := tcl dA (b + 22 + 2 * k) v) h hn
  have e : upW (fun k => tcl dA (b + 22 + 2 * k) (tp k)) k (tcl dA (b + 22 + 2 * k) v) = fun j => tcl dA (b + 22 + 2 * j) (upF tp k v j) := by
    funext j
    unfold upW upF
    by_cases q : j = k
    · rw [if_pos q, if_pos q, q]
    · rw [if_neg q, if_neg q]
  rw [e] at this
  exact this
section PL
variable {dA : Nat → ClassId} {b : Nat} {vs : Nat → VS} {tp : Nat → TS} {k j : Nat}
theorem fV1 (hk : k < 46) : (tl0 dA b vs tp).Perm (vcl dA (b + 38 + 4 * k) (vs k) ++ tV1 dA b vs tp k) := by
  unfold tl0 tV1
  rw [← List.append_assoc]
  exact (pool_f (V := fun k => vcl dA (b + 38 + 4 * k) (vs k)) (List.mem_range.mpr hk)).append_right _
theorem uV1 {v : VS} (hk : k < 46) : (vcl dA (b + 38 + 4 * k) v ++ tV1 dA b vs tp k).Perm (tl0 dA b (upF vs k v) tp) := by
  unfold tl0 tV1
  rw [← List.append_assoc]
  exact (vpl_u (List.mem_range.mpr hk) nd46).append_right _
theorem me2 (hj : j < 46) (hkj : k ≠ j) : j ∈ (List.range 46).erase k := (nd46.mem_erase_iff).mpr ⟨fun e => hkj e.symm, List.mem_range.mpr hj⟩
theorem fV2 (hk : k < 46) (hj : j < 46) (hkj : k ≠ j) : (tl0 dA b vs tp).Perm (vcl dA (b + 38 + 4 * k) (vs k) ++ (vcl dA (b + 38 + 4 * j) (vs j) ++ tV2 dA b vs tp k j)) := by
  refine (fV1 hk).trans (List.Perm.append_left _ ?_)
  unfold tV1 tV2
  rw [← List.append_assoc]
  exact (pool_f (V := fun k => vcl dA (b + 38 + 4 * k) (vs k)) (me2 hj hkj)).append_right _
theorem uV2 {v w : VS} (hk : k < 46) (hj : j < 46) (hkj : k ≠ j) : (vcl dA (b + 38 + 4 * k) v ++ (vcl dA (b + 38 + 4 * j) w ++ tV2 dA b vs tp k j)).Perm (tl0 dA b (upF (upF vs k v) j w) tp) := by
  have h1 : (vcl dA (b + 38 + 4 * j) w ++ tV2 dA b vs tp k j).Perm (tV1 dA b (upF vs j w) tp k) := by
    unfold tV1 tV2
    rw [← List.append_assoc]
    exact (vpl_u (me2 hj hkj) (nd46.erase k)).append_right _
  have h2 := (List.Perm.append_left (vcl dA (b + 38 + 4 * k) v) h1).trans (uV1 (v := v) hk)
  have e : upF (upF vs j w) k v = upF (upF vs k v) j w := by
    funext q
    unfold upF
    by_cases x : q = k
    · rw [if_pos x, if_neg (fun y => hkj (x.symm.trans y)), if_pos x]
    · rw [if_neg x]
      by_cases y : q = j
      · rw [if_pos y, if_pos y]
      · rw [if_neg y, if_neg y, if_neg x]
  rwa [e] at h2
theorem fT1 (hk : k < 8) : (tl0 dA b vs tp).Perm (tcl dA (b + 22 + 2 * k) (tp k) ++ tT1 dA b vs tp k) := by
  unfold tl0 tT1
  have h1 := (pool_f (V := fun k => tcl dA (b + 22 + 2 * k) (tp k)) (List.mem_range.mpr hk)).append_left (vpl dA b vs (List.range 46))
  refine h1.trans ?_
  rw [← List.append_assoc, ← List.append_assoc]
  exact List.perm_append_comm.append_right _
theorem uT1 {v : TS} (hk : k < 8) : (tcl dA (b + 22 + 2 * k) v ++ tT1 dA b vs tp k).Perm (tl0 dA b vs (upF tp k v)) := by
  unfold tl0 tT1
  rw [← List.append_assoc]
  refine (List.perm_append_comm.append_right _).trans ?_
  rw [List.append_assoc]
  exact (tpl_u (List.mem_range.mpr hk) nd8).append_left _
end PL
abbrev wMr (dA : Nat → ClassId) (b : Nat) (tr : Int) (hg : Int) (wk : Int) (at_ : Int) (en : Int) (cm : Int) (rg : Int) (st0 : Int) (en0 : Int) (lg : Int) (tR : Int) (ngR : Int) (scR : Int) (lnR : Int) (uR : Int) (lu : Int) (ru : Int) (su : Int) (qu : Int) (pl : Int) (rv : Value) (si : Int → Nat) (D : Int → Int) (CR : Int → Int) (FR : Int → Int) (LF : Int → Int) (RF : Int → Int) (SF : Int → Int) (QF : Int → Int) (P : Int → Int) (w_ : va_W) : va_W := (b, .inr (6, [.ref (b + 1), .ref (b + 3), .int (iI tr), .ref (b + 4), .ref (b + 5), .int (iI hg), .ref (b + 6), .int (iI wk), .ref (b + 7), .ref (b + 11), .ref (b + 20)])) :: (b + 1, .inr (2, [.ref (b + 2), .int (iI at_), .int (iI en)])) :: (b + 2, .inl (dA 1, 100, .inl (arI D))) :: (b + 3, .inl (dA 5, 8, .inr (.inr (.inr (.inr (arR (tfA b))))))) :: (b + 4, .inr (3, [.int (iI cm), .int (iI rg), rv, .int (iI st0), .int (iI en0), .int (iI lg)])) :: (b + 5, .inl (dA 4, 20, .inr (.inr (.inr (.inr (arR (sfA b si))))))) :: (b + 6, .inl (dA 4, 26, .inr (.inr (.inr (.inr (arR (rfA b))))))) :: (b + 7, .inr (4, [.int (iI tR), .ref (b + 8), .int (iI ngR), .int (iI scR), .ref (b + 10), .int (iI lnR)])) :: (b + 8, .inr (5, [.ref (b + 9), .int (iI uR)])) :: (b + 9, .inl (dA 0, 32, .inl (arI FR))) :: (b + 10, .inl (dA 1, 60, .inl (arI CR))) :: (b + 11, .inr (0, [.ref (b + 7), .ref (b + 12), .ref (b + 14), .ref (b + 16), .ref (b + 18)])) :: (b + 12, .inr (5, [.ref (b + 13), .int (iI lu)])) :: (b + 13, .inl (dA 0, 32, .inl (arI LF))) :: (b + 14, .inr (5, [.ref (b + 15), .int (iI ru)])) :: (b + 15, .inl (dA 0, 32, .inl (arI RF))) :: (b + 16, .inr (5, [.ref (b + 17), .int (iI su)])) :: (b + 17, .inl (dA 0, 32, .inl (arI SF))) :: (b + 18, .inr (5, [.ref (b + 19), .int (iI qu)])) :: (b + 19, .inl (dA 0, 32, .inl (arI QF))) :: (b + 20, .inr (1, [.ref (b + 21), .int (iI pl)])) :: (b + 21, .inl (dA 1, 200, .inl (arI P))) :: w_
theorem wMr_p {dA : Nat → ClassId} {b : Nat} {tr : Int} {hg : Int} {wk : Int} {at_ : Int} {en : Int} {cm : Int} {rg : Int} {st0 : Int} {en0 : Int} {lg : Int} {tR : Int} {ngR : Int} {scR : Int} {lnR : Int} {uR : Int} {lu : Int} {ru : Int} {su : Int} {qu : Int} {pl : Int} {rv : Value} {si : Int → Nat} {D : Int → Int} {CR : Int → Int} {FR : Int → Int} {LF : Int → Int} {RF : Int → Int} {SF : Int → Int} {QF : Int → Int} {P : Int → Int} {w w' : va_W} (h : w.Perm w') : (wMr dA b tr hg wk at_ en cm rg st0 en0 lg tR ngR scR lnR uR lu ru su qu pl rv si D CR FR LF RF SF QF P w).Perm (wMr dA b tr hg wk at_ en cm rg st0 en0 lg tR ngR scR lnR uR lu ru su qu pl rv si D CR FR LF RF SF QF P w') := (((((((((((((((((((((h.cons _).cons _).cons _).cons _).cons _).cons _).cons _).cons _).cons _).cons _).cons _).cons _).cons _).cons _).cons _).cons _).cons _).cons _).cons _).cons _).cons _).cons _
abbrev wVx (dA : Nat → ClassId) (x : Nat) (t : Int) (ng : Int) (sc : Int) (ln : Int) (u : Int) (C : Int → Int) (F : Int → Int) (w_ : va_W) : va_W := (x, .inr (4, [.int (iI t), .ref (x + 1), .int (iI ng), .int (iI sc), .ref (x + 3), .int (iI ln)])) :: (x + 1, .inr (5, [.ref (x + 2), .int (iI u)])) :: (x + 2, .inl (dA 0, 32, .inl (arI F))) :: (x + 3, .inl (dA 1, 60, .inl (arI C))) :: w_
abbrev wTx (dA : Nat → ClassId) (x : Nat) (D : Int → Int) (at_ : Int) (en : Int) (w_ : va_W) : va_W := (x, .inr (2, [.ref (x + 1), .int (iI at_), .int (iI en)])) :: (x + 1, .inl (dA 1, 60, .inl (arI D))) :: w_
/-! what a value stands for -/
def CV (v : VS) (a : Th) : Prop := ∃ N, VV v.1 v.2.1 v.2.2.1 v.2.2.2.1 v.2.2.2.2.2.1 N ∧ WR v.2.2.2.2.2.2 v.2.2.2.2.1 N ∧ a.t = v.1 ∧ a.v = sg v.2.1 N ∧ a.sc = v.2.2.1 ∧ a.ln = v.2.2.2.1 ∧ ∀ j, 0 ≤ j → j < a.ln → a.ch j = v.2.2.2.2.2.1 j
def CH (sg : Int → Nat) (vs : Nat → VS) (hg wk : Int) (st : AS) : Prop := (hg = st.h ∧ 0 ≤ hg ∧ hg ≤ 20) ∧ (wk = st.k ∧ 0 ≤ wk ∧ wk ≤ 40) ∧ (∀ i, 0 ≤ i → i < 20 → sg i < 20) ∧ (∀ i j, 0 ≤ i → i < 20 → 0 ≤ j → j < 20 → sg i = sg j → i = j) ∧ (∀ i, 0 ≤ i → i < 26 → CV (vs (20 + i.toNat)) (st.reg i)) ∧ ∀ i, 0 ≤ i → i < hg → CV (vs (sg i)) (st.stk i)
theorem CH_push {sg : Int → Nat} {vs : Nat → VS} {hg wk : Int} {st : AS} {v : VS} {a : Th} (h : CH sg vs hg wk st) (ha : CV v a) (hh : hg ≠ 20) : (pushA st a).1 = 0 ∧ CH sg (upF vs (sg hg) v) (hg + 1) wk (pushA st a).2 := by
  obtain ⟨h1, h2, h3, h4, h5, h6⟩ := h
  have hs := h3 hg (by omega) (by omega)
  unfold pushA
  rw [if_neg (by omega)]
  refine ⟨rfl, ⟨by show hg + 1 = st.h + 1; omega, by omega, by omega⟩, h2, h3, h4, fun i x y => ?_, fun i x y => ?_⟩
  · rw [upF_n (by omega)]; exact h5 i x y
  · show CV (upF vs (sg hg) v (sg i)) (upT st.stk st.h a i)
    by_cases q : i = hg
    · rw [q, upF_s, h1.1, upT_s]; exact ha
    · rw [upF_n (fun z => q (h4 i hg x (by omega) (by omega) (by omega) z)), upT_n (by omega)]; exact h6 i x (by omega)
