theorem tl0_last {dA : Nat → ClassId} {b : Nat} {vs : Nat → VS} {tp : Nat → TS} : ∃ q ∈ tl0 dA b vs tp, q.1 = b + 221 := ⟨_, List.mem_append_left _ (List.mem_flatMap.mpr ⟨45, List.mem_range.mpr (by decide), List.mem_cons_of_mem _ (List.mem_cons_of_mem _ (List.mem_cons_of_mem _ List.mem_cons_self))⟩), rfl⟩
theorem wMr_last {dA : Nat → ClassId} {b : Nat} : ∃ q ∈ wMr dA b 0 0 0 0 0 0 0 0 0 0 0 0 0 0 0 0 0 0 0 0 .null (fun i => i.toNat) (fun _ => 0) (fun _ => 0) (fun _ => 0) (fun _ => 0) (fun _ => 0) (fun _ => 0) (fun _ => 0) (fun _ => 0) (tl0 dA b (fun _ => vz0) (fun _ => tz0)), q.1 = b + 221 := by
  obtain ⟨q, h1, h2⟩ := tl0_last (dA := dA) (b := b) (vs := fun _ => vz0) (tp := fun _ => tz0)
  exact ⟨q, List.mem_cons_of_mem _ (List.mem_cons_of_mem _ (List.mem_cons_of_mem _ (List.mem_cons_of_mem _ (List.mem_cons_of_mem _ (List.mem_cons_of_mem _ (List.mem_cons_of_mem _ (List.mem_cons_of_mem _ (List.mem_cons_of_mem _ (List.mem_cons_of_mem _ (List.mem_cons_of_mem _ (List.mem_cons_of_mem _ (List.mem_cons_of_mem _ (List.mem_cons_of_mem _ (List.mem_cons_of_mem _ (List.mem_cons_of_mem _ (List.mem_cons_of_mem _ (List.mem_cons_of_mem _ (List.mem_cons_of_mem _ (List.mem_cons_of_mem _ (List.mem_cons_of_mem _ (List.mem_cons_of_mem _ (h1)))))))))))))))))))))), h2⟩
set_option maxRecDepth 100000 in
set_option maxHeartbeats 4000000 in
theorem law_body {p : Program} {l : Launch} {e : Env} {s : State} {m : MethodId} {below : List Frame} {meth : Method} {c : Code} {A : Nat → Prop} {dC : Nat → ClassId} {dI : Nat → Nat → Nat} {dA : Nat → ClassId} {dS ad : Nat → Nat} {sc L : Nat} {xs : Nat → Int32} {ls : Array Slot} (hfl : ∀ e : Env, l.admits e → e.platform.stackTraces = false) (hx : p.tables.exec = Jvm.exec) (hb : c.code = code) (hr : meth.sig.returnType = ret) (hlocks : meth.locks = false) (hml : c.maxLocals = 7) (hown : s.vm.findClass "MacroReckonerLaw" = some m.cls) (hts : ∀ w ∈ wg, w.before #[Value.ref sc] s = true) (hK : va_K (dC, dI) vwCl (tyA dA) s) (hA : ∀ q, s.heap.size ≤ q → A q) (hAs : ∀ q, A q → s.heap.size ≤ q) (hXM : XM dS ad A s s.heap) (hXE : XE A s s.heap) (hXY : XY A s s.heap) (hscr : va_X sc L xs s s.heap) (hsc : sc < s.heap.size) (hscA : ¬ A sc) (hL : L ≤ 1024) (hl : lv_has ls 7 [(0, .ref sc)]) : W p l e room_1 s m #[Value.ref sc] below meth c s.heap [] 0 0 (lw_Z below #[Value.ref sc] s) (F0 m 0 ls []) := by
  have hend : ∀ (H : Heap) (locs : List Loc) (ls : Array Slot), va_S A s.heap H locs → W p l e room_1 s m #[Value.ref sc] below meth c H locs (749) (14426) (lw_Z below #[Value.ref sc] s) (F0 m 349 ls []) := by
    intro H locs ls hS
    refine lv_iconst (v := (1 : Int32)) hx hb dLaw_349 (by decide) ?_
    refine va_forget (fun q hq => hAs _ (hS.2.2 q hq)) ?_
    refine W.widen (k := 601024) (n := 7293034) (by decide) (by decide) ?_
    exact lw_ret hx hb hr hlocks dLaw_350
  obtain ⟨x, hx0⟩ : ∃ x : Nat, s.heap.size = x := ⟨_, rfl⟩
  have hP : va_P (dC, dI) vwCl ([] : va_W) s.heap := fun k q hq => by cases hq
  have hD : va_D A ([] : va_W) := ⟨fun i j p q hi => (by cases hi), fun k q hk => (by cases hk)⟩
  have hS : va_S A s.heap s.heap [] := va_S.rf
  refine va_newH (ws := ([] : va_W)) (ci := 6) (fs := [.null, .null, .int (iI 0), .null, .null, .int (iI 0), .null, .int (iI 0), .null, .null, .null]) (C := "MacroReckoner") (T := TMr) (N := 11) hx hb hts inMr tyMr tyMr_ok hown (hts _ wt1_20) (hts _ wt1_21) (hts _ wt1_1) hK hP hD hS hA rfl (by decide +kernel) (by show _ ≤ 601024; omega) (by show _ ≤ 7293034; omega) dLaw_0 hx0 (fun H hP hD hS hz => ?_)
  refine lv_dup hx hb dLaw_3 rfl ?_
  refine cvN (wr := ([] : va_W)) (wc := [(x, .inr (6, [.null, .null, .int (iI 0), .null, .null, .int (iI 0), .null, .int (iI 0), .null, .null, .null]))]) (va_runI (As := []) (rest := [.ref (x)]) ⟨hx, hb, hml, hown, hts⟩ (cMr_init l dC dI dA (x) H.size hz) (cwI 0 hts (gd wt1_24) rfl rfl rfl (hts _ wt1_1) (hts _ wt1_22) (hts _ wt1_23) rfl ⟨by decide, by decide, by decide +kernel⟩ ⟨by decide, by decide⟩) (preE (wr := ([] : va_W)) hK hP hD hS hA XY_ok hXY) rfl rfl hl.1 rfl (lv_room (Nat.le_of_ble_eq_true rfl)) dLaw_4 ⟨by show _ ≤ 601024; omega, by show _ ≤ 7293034; omega⟩) hP hD hS hA (fun H locs hP hD hS => ?_)
  obtain ⟨wx, hwx, hw, ql, hq1, hq2⟩ : ∃ wx : va_W, wx = wMr dA x 0 0 0 0 0 0 0 0 0 0 0 0 0 0 0 0 0 0 0 0 .null (fun i => i.toNat) (fun _ => 0) (fun _ => 0) (fun _ => 0) (fun _ => 0) (fun _ => 0) (fun _ => 0) (fun _ => 0) (fun _ => 0) (tl0 dA x (fun _ => vz0) (fun _ => tz0)) ∧ CW dA x stI wx ∧ ∃ q ∈ wx, q.1 = x + 221 := ⟨_, rfl, CW_0, wMr_last⟩
  have hP : va_P (dC, dI) vwCl wx H := by rw [hwx]; exact hP
  have hD : va_D A wx := by rw [hwx]; exact hD
  clear hwx
  refine lv_astore_n (lv' := [(1, .ref x), (0, .ref sc)]) hx hb dLaw_7 rfl hl (by decide) rfl (fun ls hl => ?_)
  refine W_sz (n := x + 222) (by omega) (by have h9 := (va_P_mem.mp hP ql hq1).lt; omega) (fun hz => ?_)
  refine va_newH (ws := wx) (ci := 7) (fs := [.int (iI 0), .int (iI 0), .null, .null, .null, .null, .null, .null, .int (iI 0), .int (iI 0), .int (iI 0), .null, .null, .null, .int (iI 0), .null, .int (iI 0), .int (iI 0), .int (iI 0), .null, .int (iI 0), .null, .null]) (C := "MacroReckonerModel") (T := TMo) (N := 23) hx hb hts inMo tyMo tyMo_ok hown (hts _ wt4_52) (hts _ wt4_53) (hts _ wt1_8) hK hP hD hS hA rfl (by decide +kernel) (by show _ ≤ 601024; omega) (by show _ ≤ 7293034; omega) dLaw_8 hz (fun H hP hD hS hz => ?_)
  refine lv_dup hx hb dLaw_11 rfl ?_
  refine cvN (wr := wx) (wc := [(x + 222, .inr (7, [.int (iI 0), .int (iI 0), .null, .null, .null, .null, .null, .null, .int (iI 0), .int (iI 0), .int (iI 0), .null, .null, .null, .int (iI 0), .null, .int (iI 0), .int (iI 0), .int (iI 0), .null, .int (iI 0), .null, .null]))]) (va_runI (As := []) (rest := [.ref (x + 222)]) ⟨hx, hb, hml, hown, hts⟩ (cMo_init l dC dI dA (x + 222) H.size hz) (cwI 0 hts (gd wt4_56) rfl rfl rfl (hts _ wt1_8) (hts _ wt4_54) (hts _ wt4_55) rfl ⟨by decide, by decide, by decide +kernel⟩ ⟨by decide, by decide⟩) (preE (wr := wx) hK hP hD hS hA XY_ok hXY) rfl rfl hl.1 rfl (lv_room (Nat.le_of_ble_eq_true rfl)) dLaw_12 ⟨by show _ ≤ 601024; omega, by show _ ≤ 7293034; omega⟩) hP hD hS hA (fun H locs hP hD hS => ?_)
  obtain ⟨wm, hwm, hm, qm, hq3, hq4⟩ : ∃ wm : va_W, wm = wMo dA (x + 222) 0 0 0 0 0 0 0 0 0 0 (fun _ => 0) (fun _ => 0) (fun _ => 0) (fun _ => 0) (fun _ => 0) (fun _ => 0) (fun _ => 0) (fun _ => 0) (fun _ => 0) (fun _ => 0) (fun _ => 0) (fun _ => 0) (fun _ => 0) [] ∧ MW dA (x + 222) 0 stI wm ∧ ∃ q ∈ wm, q.1 = x + 222 + 13 := ⟨_, rfl, MW_0, _, List.mem_of_getElem? (i := 13) rfl, rfl⟩
  have hP : va_P (dC, dI) vwCl (wx ++ wm) H := by rw [hwm]; exact hP
  have hD : va_D A (wx ++ wm) := by rw [hwm]; exact hD
  clear hwm
  refine lv_astore_n (lv' := [(2, .ref (x + 222)), (1, .ref x), (0, .ref sc)]) hx hb dLaw_15 rfl hl (by decide) rfl (fun ls hl => ?_)
  refine lv_iconst (v := iI 1) hx hb dLaw_16 rfl ?_
  refine W_sz (n := x + 236) (by omega) (by have h9 := (va_P_mem.mp hP qm (List.mem_append_right _ hq3)).lt; omega) (fun hz => ?_)
  refine va_newaH (ws := wx ++ wm) (atype := .long) (n := iI 1) (N' := 1) (a0 := (1, .inr (.inl (fun _ => 0)))) (ty := .long) hx hb (hts _ wt5_129) rfl hP hD hS hA (fun _ => rfl) (tyI hK).2.2.2.1 (iIn (n := 1) (by decide)).1 (iIn (n := 1) (by decide)).2 (by show 1 * 8 ≤ 536870912; omega) (by show _ ≤ 601024; omega) (by show _ ≤ 7293034; omega) dLaw_17 hz (fun H hP hD hS hz => ?_)
  have hP : va_P (dC, dI) vwCl (ocl dA (x + 236) (fun _ => 0) :: wm ++ wx) H := va_P_pm (ws := (wx ++ wm) ++ [ocl dA (x + 236) (fun _ => 0)]) (ws' := ocl dA (x + 236) (fun _ => 0) :: (wm ++ wx)) (List.perm_append_comm.trans (show ([ocl dA (x + 236) (fun _ => 0)] ++ (wx ++ wm)).Perm (ocl dA (x + 236) (fun _ => 0) :: (wm ++ wx)) from List.Perm.cons _ (List.perm_append_comm (l₁ := wx) (l₂ := wm)))) hP
  have hD : va_D A (ocl dA (x + 236) (fun _ => 0) :: wm ++ wx) := va_D_pm (ws := (wx ++ wm) ++ [ocl dA (x + 236) (fun _ => 0)]) (ws' := ocl dA (x + 236) (fun _ => 0) :: (wm ++ wx)) (List.perm_append_comm.trans (show ([ocl dA (x + 236) (fun _ => 0)] ++ (wx ++ wm)).Perm (ocl dA (x + 236) (fun _ => 0) :: (wm ++ wx)) from List.Perm.cons _ (List.perm_append_comm (l₁ := wx) (l₂ := wm)))) hD
  refine lv_astore_n (lv' := [(3, .ref (x + 236)), (2, .ref (x + 222)), (1, .ref x), (0, .ref sc)]) hx hb dLaw_19 rfl hl (by decide) rfl (fun ls hl => ?_)
  refine lv_iconst (v := iI 0) hx hb dLaw_20 rfl ?_
  refine lv_istore (lv' := [(4, .int (iI 0)), (3, .ref (x + 236)), (2, .ref (x + 222)), (1, .ref x), (0, .ref sc)]) hx hb dLaw_21 hl (by decide) rfl (fun ls hl => ?_)
  exact W.widen (k := 237 + 0) (n := 11354 + 6 * 0) (by omega) (by omega) (law_loop (b := x) (mo := x + 222) (o := x + 236) hfl hx hb hml hown hts hK hA hXM hXE hscr hsc hscA hL hend _ 0 stI (fun _ => 0) 0 wx wm H locs ls (by omega) (Nat.lt_succ_self _) hw hm hP hD hS (by rw [show (2 * ((0 : Nat) : Int)) = 0 from rfl]; exact lv_sub hl [4, 3, 2, 1, 0] rfl))
theorem whole_start {p : Program} {e : Env} {s : State} {m : MethodId} {below : List Frame} {meth : Method} {c : Code} (l : Launch) (hfl : l.stackTraces = false) {b L : Nat} {xs : Nat → Int32} (hL : L ≤ 1024) (C0 : lw_At p s m meth c b L xs) : W p l e room_1 s m #[Value.ref b] below meth c s.heap [] 0 0 (lw_Z below #[Value.ref b] s) (entryFrame m ([Value.ref b] : List Value).toArray 7) := by
  obtain ⟨hx, hb, hr, hml, hown, hts0, hscr, hsc, hlocks, hgv⟩ := C0
  have hn := flat_of_before _ hgv
  have hts : ∀ w ∈ wg, w.before #[Value.ref b] s = true := fun w hw => hts0 w (wg_in hw)
  have hA0 : ∀ a : Nat, a < s.heap.size → ¬ (fun q : Nat => s.heap.size ≤ q) a := fun a h => Nat.not_le.mpr h
  obtain ⟨dC, dI, dA, hK⟩ := K_ex hts (aoV hts0) (aoT hts0)
  obtain ⟨dS, hXC⟩ := XC_0 hts0 hn hA0
  obtain ⟨ad, hXS⟩ := XS_0 hts0 hn hA0
  have hl := lv_entry [Value.ref b] (n := 7) (Nat.le_of_ble_eq_true rfl)
  rw [lg_entry_eq]
  exact law_body (A := fun q => s.heap.size ≤ q) (dS := dS) (ad := ad) (fun e ha => by rw [ha.platform]; exact hfl) hx hb hr hlocks hml hown hts hK (fun q h => h) (fun q h => h) ⟨hXC, hXS⟩ (XE_0 hts0 hn hA0) (XY_0 hts0) hscr hsc (hA0 b hsc) hL hl
set_option maxHeartbeats 4000000 in
theorem lw_walk (l : Launch) (hfl : l.stackTraces = false) (b : Addr) (xs : List Int32) : MetFree l x (headSpec (Jvm.Cond.code x code maxLocals ret :: tables_1) room_1) (lw_P b xs) (fun _ _ _ _ _ => True) lw_Q := by
  refine MetFree.of_bodyS (code := code) (maxLocals := maxLocals) (ret := ret) (by decide) ?_ ?_
  · intro args s m h hn
    obtain ⟨meth, c, h1, h2, h3, h4, h5, h6, -, -⟩ := Cond.code_spec hn (atoms_spec (ws := Jvm.Cond.code x code maxLocals ret :: tables_1) h _ List.mem_cons_self)
    exact ⟨meth, c, h1, h2, h3, h4, h5, h6⟩
  · intro p e s m args below meth c s₁ B hml0 hP _
    obtain ⟨rfl, hx, hbd, hgv⟩ := hP
    obtain ⟨scr, harrAt, hlist, hof, hsmall⟩ := hx
    obtain ⟨hcb, hkn, -, -⟩ := State.arrayAt?_spec harrAt
    have hown : s.vm.findClass R_law = some m.cls := findClass_of_methodNamed B.named
    have hts0 : ∀ c ∈ (Jvm.Cond.code x code maxLocals ret :: tables_1), c.before #[Value.ref b] s = true := atoms_spec (ws := Jvm.Cond.code x code maxLocals ret :: tables_1) B.pre
    have hts : ∀ w ∈ lw_tbl, w.before #[Value.ref b] s = true := k2_hts_sels lw_privs (fun w hw => hts0 w (List.mem_cons_of_mem _ hw)) lw_privs_ok
    have hml : c.maxLocals = 7 := B.maxLocals_eq (hts0 _ List.mem_cons_self)
    have X₀ : Stand p l e room_1 s m #[Value.ref b] below meth c s₁ [] 0 0 := Stand.of_body B
    have hh0 : s₁.heap = s.heap := by rw [B.state]; rfl
    have hsz : scr.slots.size = xs.length := by rw [← Array.length_toList, hlist, List.length_map]
    have hval : ∀ j : Nat, j < xs.length → scr.slots[j]? = some (.int (xs.getD j 0)) := fun j hj => by
      rw [← Array.getElem?_toList, hlist]
      simp [hj]
    have hbl : b < s.heap.size := (Array.getElem?_eq_some_iff.mp hcb).1
    have hX : va_X b xs.length (fun j => xs.getD j 0) s s.heap := ⟨scr, hcb, hof, hkn, hsz, hval⟩
    have K : W p l e room_1 s m #[Value.ref b] below meth c s₁.heap [] 0 0 (lw_Z below #[Value.ref b] s) (entryFrame m ([Value.ref b] : List Value).toArray 7) := by
      rw [hh0]
      exact whole_start l hfl hbd ⟨B.exec, B.bytes, B.returns, hml, hown, hts, hX, hbl, B.notSynchronized, hgv⟩
    obtain ⟨t, a1, o, b1, b2, b3⟩ := K s₁ rfl X₀
    exact ⟨t, o, a1, b1, b2, b3⟩
theorem lw_pre_spec {args : Array Value} {s : State} (h : (Jvm.Cond.and given_1 narrow_1).before args s = true) (hr : rest_1_c.before args s = true) : ∃ (b : Addr) (xs : List Int32), lw_P b xs args s := by
  have hs := flat_of_before _ h
  have hq := flat_of_before _ hr
  have hc : (Cond.count 1).before args s = true := hs _ (by decide +kernel)
  have harr : (Cond.arrayOf (.arg 0) .int).before args s = true := hs _ (by decide +kernel)
  have hle : (Cond.le (.length (.arg 0)) (.int 1024)).before args s = true := hs _ (by decide +kernel)
  have hlen : (Cond.isInt (.length (.arg 0))).before args s = true := hq _ (by decide +kernel)
  have hall : (Cond.all (.arg 0) (.isInt (.elem (.arg 0) (.index 0)))).before args s = true := hq _ (by decide +kernel)
  obtain ⟨b, xs, hb, hx⟩ := State.ints_of_pre rfl harr hlen hall
  have hsm : xs.length < 2 ^ 31 := hx.choose_spec.2.2.2
  have hev : (Term.length (.arg 0)).eval args s none [] s = some (.int xs.length.toInt32) := hx.length_eval hb
  have hv := Cond.le_ints hev (show (Term.int 1024).eval args s none [] s = some (.int 1024) from rfl)
  have hd : xs.length.toInt32 ≤ 1024 := by
    simpa [Cond.before, Cond.holds, hv] using hle
  have hN : xs.length ≤ 1024 := (Int32.ofNat_le_ofNat hsm (by decide)).mp (show Int32.ofNat xs.length ≤ Int32.ofNat 1024 from hd)
  exact ⟨b, xs, Cond.one_arg hc (show args[0]? = some (.ref b) from hb), hx, hN, h⟩
theorem lw_comes (l : Launch) (hfl : l.stackTraces = false) : Comes l x (Jvm.Cond.code x code maxLocals ret :: tables_1) room_1 (fun tb e args s => Calls_1 tb e args s ∧ rest_1 tb e args s ∧ Pre_1 tb e args s)
    (fun _ _ args s o t => lw_Q args s o t) := by
  intro p e ha hc hk s m args below hf hfit hheap happ hpre
  obtain ⟨b, xs, hP⟩ := lw_pre_spec hpre.2.2 hpre.2.1
  obtain ⟨k, o, h1, h2, h3, hQ⟩ := lw_walk l hfl b xs p e ha hc hk s m args below hf ((Spec.applies_iff_loose hf).mp happ).1 hP trivial
  exact ⟨k, o, h1, h2, h3, hQ⟩
theorem lw_frame {s t : State} {o : Outcome} {args : Array Value} (h : Framed s o t [] 601024 7293034) :
    Framed s o t (fieldLocs frame_1_writes args s ++ arrayLocs frame_1_arrays args s ++ staticLocs frame_1_statics s) 601024 7293034 := h
theorem lw_limb (L : Cond) (hL : ∀ (args : Array Value) (s t : State), L.after args s (.returned (some (.int 1))) t = true) :
    ArmFor flags0 classFile x code maxLocals ret World_1 tables_1 room_1 Calls_1 rest_1 Pre_1
      (fun tb e a s o t => postC L tb e a s o t ∧ Framed s o t (fieldLocs frame_1_writes a s ++ arrayLocs frame_1_arrays a s ++ staticLocs frame_1_statics s) 601024 7293034) := by
  intro l hflags _ _ p e ha hc hk s m args below hf hfit hheap happ hpre
  have hfl : l.stackTraces = false := by unfold Launch.stackTraces; rw [hflags]; decide +kernel
  obtain ⟨k, o, h1, h2, h3, rfl, hF⟩ := lw_comes l hfl p e ha hc hk s m args below hf hfit hheap happ hpre
  exact ⟨k, _, h1, h2, h3, hL args s _, lw_frame hF⟩
theorem i_vc : Claimed_1_1 ∧ Claimed_1_2 := ⟨lw_limb limb_1_1 (fun args s t => by simp [limb_1_1, Cond.after, Cond.holds, Cond.value]), lw_limb limb_1_2 (fun args s t => Cond.after_iff.mpr (by
  first | (rw [show limb_1_2 = Cond.eq .result (.int 1) from rfl, Cond.eq_ints (x := 1) (y := 1) rfl rfl]; simp; done) | (simp [limb_1_2, Cond.value, Term.eval]; done)))⟩
