/-! every answer of a command is 0 or an error -/
theorem push_b {st : AS} {a : Th} : -10 ≤ (pushA st a).1 ∧ (pushA st a).1 ≤ 0 := by
  unfold pushA
  split
  · exact ⟨by show (-10 : Int) ≤ -8; decide, by show (-8 : Int) ≤ 0; decide⟩
  · exact ⟨by show (-10 : Int) ≤ 0; decide, by show (0 : Int) ≤ 0; decide⟩
theorem fin_hi {Z s : Int} : (fin Z s).1 ≤ 0 := by
  unfold fin
  split
  · show (-7 : Int) ≤ 0; decide
  · show (0 : Int) ≤ 0; decide
theorem rkA_hi {c k : Int} {a b : Th} : (rkA c k a b).1 ≤ 0 := by
  unfold rkA sumA mulA divA modA powA
  repeat (first | exact fin_hi | (show _ ≤ (0 : Int); decide) | split)
theorem rooA_hi {k : Int} {a : Th} : (rooA k a).1 ≤ 0 := by
  unfold rooA
  repeat (first | exact fin_hi | (show _ ≤ (0 : Int); decide) | split)
theorem calc_b {st : AS} {c : Int} : -10 ≤ (calcA st c).1 ∧ (calcA st c).1 ≤ 0 := by
  unfold calcA
  split
  · exact ⟨by show (-10 : Int) ≤ 0; decide, by show (0 : Int) ≤ 0; decide⟩
  · exact ⟨rkA_lo, rkA_hi⟩
theorem sqr_b {st : AS} : -10 ≤ (sqrtA st).1 ∧ (sqrtA st).1 ≤ 0 := by
  unfold sqrtA
  split
  · exact ⟨by show (-10 : Int) ≤ 0; decide, by show (0 : Int) ≤ 0; decide⟩
  · exact ⟨rooA_lo, rooA_hi⟩
theorem beg_b {st : AS} {a : Th} : -10 ≤ (begA st a).1 ∧ (begA st a).1 ≤ 0 := by
  have := begA_c (st := st) (a := a)
  omega
theorem run_b {st : AS} : -10 ≤ (runA st).1 ∧ (runA st).1 ≤ 0 := by
  by_cases q : (st.stk (st.h - 1)).t = 1
  · by_cases w : (begA st (st.stk (st.h - 1))).1 = 0
    · rw [run_0 q w]; exact ⟨by show (-10 : Int) ≤ 0; decide, by show (0 : Int) ≤ 0; decide⟩
    · rw [(run_n q w).1]; exact beg_b
  · rw [run_i q]; exact ⟨by show (-10 : Int) ≤ 0; decide, by show (0 : Int) ≤ 0; decide⟩
theorem cho_b {st : AS} {c rg : Int} : -10 ≤ (choA st c rg).1 ∧ (choA st c rg).1 ≤ 0 := by
  by_cases q : holdsA c (st.stk (st.h - 1)) (st.stk (st.h - 2))
  · by_cases w : (begA st (st.reg rg)).1 = 0
    · rw [cho_0 q w]; exact ⟨by show (-10 : Int) ≤ 0; decide, by show (0 : Int) ≤ 0; decide⟩
    · rw [(cho_f q w).1]; exact beg_b
  · rw [cho_n q]; exact ⟨by show (-10 : Int) ≤ 0; decide, by show (0 : Int) ≤ 0; decide⟩
theorem ite_p {P : Int × AS → Prop} {c : Prop} {d : Decidable c} {a b : Int × AS} (ha : P a) (hb : P b) : P (@ite _ c d a b) := by
  by_cases h : c
  · rw [if_pos h]; exact ha
  · rw [if_neg h]; exact hb
def erP (q : Int × AS) : Prop := -10 ≤ q.1 ∧ q.1 ≤ 0
theorem er_0 {q : AS} : erP (0, q) := ⟨by show (-10 : Int) ≤ 0; decide, by show (0 : Int) ≤ 0; decide⟩
theorem er_10 {q : AS} : erP (-10, q) := ⟨by show (-10 : Int) ≤ -10; decide, by show (-10 : Int) ≤ 0; decide⟩
theorem er_1 {q : AS} : erP (-1, q) := ⟨by show (-10 : Int) ≤ -1; decide, by show (-1 : Int) ≤ 0; decide⟩
theorem p1_b {st : AS} : erP (p1A st) := by unfold p1A; exact ite_p er_10 er_0
theorem pn_b {st : AS} : erP (pnA st) := by unfold pnA; exact ite_p er_10 er_0
theorem pf_b {st : AS} : erP (pfA st) := by unfold pfA; exact ite_p er_10 er_0
theorem num_b {st : AS} {D : Int → Int} {lg : Int} : -10 ≤ (numA st D lg).1 ∧ (numA st D lg).1 ≤ 0 := by
  unfold numA
  split
  · exact ⟨by show (-10 : Int) ≤ -7; decide, by show (-7 : Int) ≤ 0; decide⟩
  · exact push_b
theorem txt_b {st : AS} {D : Int → Int} {lg : Int} : -10 ≤ (txtA st D lg).1 ∧ (txtA st D lg).1 ≤ 0 := by
  unfold txtA
  split
  · exact ⟨by show (-10 : Int) ≤ -7; decide, by show (-7 : Int) ≤ 0; decide⟩
  · exact push_b
theorem sca_b {st : AS} : -10 ≤ (scaleA st).1 ∧ (scaleA st).1 ≤ 0 := by
  unfold scaleA
  split
  · exact ⟨by show (-10 : Int) ≤ -4; decide, by show (-4 : Int) ≤ 0; decide⟩
  · exact ⟨by show (-10 : Int) ≤ 0; decide, by show (0 : Int) ≤ 0; decide⟩
theorem perf_b {st : AS} {c rg lg : Int} {D : Int → Int} : erP (perfA st c rg D lg) := by
  unfold perfA
  exact ite_p num_b (ite_p txt_b (ite_p calc_b (ite_p sqr_b (ite_p push_b (ite_p er_0 (ite_p er_0 (ite_p push_b (ite_p push_b (ite_p sca_b (ite_p p1_b (ite_p pn_b (ite_p pf_b (ite_p er_0 (ite_p er_0 (ite_p er_0 (ite_p push_b (ite_p run_b (ite_p cho_b (ite_p er_0 er_1)))))))))))))))))))
theorem cmd_bb {st : AS} {c rg lg : Int} {D : Int → Int} : -10 ≤ (cmdA st c rg D lg).1 ∧ (cmdA st c rg D lg).1 ≤ 0 := by
  unfold cmdA
  split
  · show -10 ≤ missA st c ∧ missA st c ≤ 0
    unfold missA
    split
    · decide
    · split <;> decide
  · exact perf_b
/-! a command of the reference's -/
theorem com_e {st : AS} {c l : Int} (hl : tkL (srD st) (srE st) = l) (hc : cmC st = c) : comA st = cmdA (takA st l) c (srD st 1 - 97) (srD st) l := by
  unfold comA
  rw [hl, hc]
theorem cmC_e {st : AS} {c u : Int} (hc : tkC (srD st) (srE st) = c) (hu : tkU (srD st) (srE st) = u) : (u = 1 ∧ 0 < st.tn ∧ c ≠ 48 → cmC st = 0) ∧ (¬ (u = 1 ∧ 0 < st.tn ∧ c ≠ 48) → cmC st = c) := by
  unfold cmC
  rw [hc, hu]
  exact ⟨fun h => if_pos h, fun h => if_neg h⟩
theorem cmd_n {st : AS} {rg lg : Int} {D : Int → Int} (hh : 0 ≤ st.h) : cmdA st 48 rg D lg = numA st D lg ∧ cmdA st 91 rg D lg = txtA st D lg := by
  have n1 : need 48 = 0 := by unfold need; rw [if_neg (by decide), if_neg (by decide)]
  have n2 : need 91 = 0 := by unfold need; rw [if_neg (by decide), if_neg (by decide)]
  exact ⟨by rw [cmd_p (by rw [n1]; exact hh) (fun z => by unfold nums at z; omega), perf_p.1 rfl], by rw [cmd_p (by rw [n2]; exact hh) (fun z => by unfold nums at z; omega), perf_p.2.1 rfl]⟩
theorem fin_c {T S C L B F U X P I : Int → Int} {hg kk tx pn lf r : Int} {st : AS} {Q : Int × AS} (hco : comA st = Q) (hr : r = Q.1) (hMA : MA T S C L B hg kk F U X tx P pn Q.2) (hMI : MI I lf Q.2) : (r ≠ 0 → r = (stpA st).1 ∧ MA T S C L B hg kk F U X 0 P pn (stpA st).2 ∧ MI I lf (stpA st).2) ∧ (r = 0 → r = (stpA st).1 ∧ MA T S C L B hg kk F U X tx P pn (stpA st).2 ∧ MI I lf (stpA st).2) := by
  have hq : comA st = (r, Q.2) := by rw [hco, hr]
  constructor
  · intro h
    rw [stp_f hq h]
    exact ⟨rfl, ⟨MH_c hMA.1 rfl rfl rfl rfl, MX_0 rfl, MG_c hMA.2.2 rfl rfl⟩, MI_c hMI rfl rfl⟩
  · intro h
    rw [h] at hq
    rw [stp_0 hq]
    exact ⟨h, hMA, hMI⟩
theorem MI_push {I : Int → Int} {lf : Int} {st : AS} {a : Th} (h : MI I lf st) : MI I lf (pushA st a).2 := by
  unfold pushA
  split
  · exact h
  · exact MI_c h rfl rfl
theorem num_o {F U X P I : Int → Int} {tx pn lf lg : Int} {D : Int → Int} {st : AS} (h1 : MX F U X tx st) (h2 : MG P pn st) (h3 : MI I lf st) : MX F U X tx (numA st D lg).2 ∧ MG P pn (numA st D lg).2 ∧ MI I lf (numA st D lg).2 := by
  unfold numA
  split
  · exact ⟨h1, h2, h3⟩
  · exact ⟨MX_push h1, MG_push h2, MI_push h3⟩
theorem txt_o {F U X P I : Int → Int} {tx pn lf lg : Int} {D : Int → Int} {st : AS} (h1 : MX F U X tx st) (h2 : MG P pn st) (h3 : MI I lf st) : MX F U X tx (txtA st D lg).2 ∧ MG P pn (txtA st D lg).2 ∧ MI I lf (txtA st D lg).2 := by
  unfold txtA
  split
  · exact ⟨h1, h2, h3⟩
  · exact ⟨MX_push h1, MG_push h2, MI_push h3⟩
/-- no command but reading touches the input -/
def inP (st : AS) (q : Int × AS) : Prop := q.2.inp = st.inp ∧ q.2.il = st.il
theorem push_i {st : AS} {a : Th} : inP st (pushA st a) := by unfold pushA; exact ite_p ⟨rfl, rfl⟩ ⟨rfl, rfl⟩
theorem num_i {st : AS} {D : Int → Int} {lg : Int} : inP st (numA st D lg) := by unfold numA; exact ite_p ⟨rfl, rfl⟩ push_i
theorem txt_i {st : AS} {D : Int → Int} {lg : Int} : inP st (txtA st D lg) := by unfold txtA; exact ite_p ⟨rfl, rfl⟩ push_i
theorem calc_i {st : AS} {c : Int} : inP st (calcA st c) := by unfold calcA; exact ite_p ⟨rfl, rfl⟩ ⟨rfl, rfl⟩
theorem sqr_i {st : AS} : inP st (sqrtA st) := by unfold sqrtA; exact ite_p ⟨rfl, rfl⟩ ⟨rfl, rfl⟩
theorem sca_i {st : AS} : inP st (scaleA st) := by unfold scaleA; exact ite_p ⟨rfl, rfl⟩ ⟨rfl, rfl⟩
theorem pr_i {st : AS} {nl : Int} {n : Nat} : (prN st nl n).inp = st.inp ∧ (prN st nl n).il = st.il := ⟨(prN_k n).2.2.2.2.2.2.2.1, (prN_k n).2.2.2.2.2.2.2.2⟩
theorem p1_i {st : AS} : inP st (p1A st) := by unfold p1A; exact ite_p ⟨rfl, rfl⟩ pr_i
theorem pn_i {st : AS} : inP st (pnA st) := by unfold pnA; exact ite_p ⟨rfl, rfl⟩ (pr_i (st := st) (nl := 0) (n := 1))
theorem pf_i {st : AS} : inP st (pfA st) := by unfold pfA; exact ite_p ⟨rfl, rfl⟩ pr_i
theorem run_ii {st : AS} : inP st (runA st) := ⟨(runA_k).2.2.2.2.2.2.1, (runA_k).2.2.2.2.2.2.2⟩
theorem cho_i {st : AS} {c rg : Int} : inP st (choA st c rg) := by
  have b := begA_k (st := st) (a := st.reg rg)
  unfold choA
  exact ite_p ⟨rfl, rfl⟩ (ite_p ⟨b.2.2.2.2.1, b.2.2.2.2.2.1⟩ ⟨rfl, rfl⟩)
theorem perf_i {st : AS} {c rg lg : Int} {D : Int → Int} : inP st (perfA st c rg D lg) := by
  unfold perfA
  exact ite_p num_i (ite_p txt_i (ite_p calc_i (ite_p sqr_i (ite_p push_i (ite_p (show inP st _ from ⟨rfl, rfl⟩) (ite_p (show inP st _ from ⟨rfl, rfl⟩) (ite_p push_i (ite_p push_i (ite_p sca_i (ite_p p1_i (ite_p pn_i (ite_p pf_i (ite_p (show inP st _ from ⟨rfl, rfl⟩) (ite_p (show inP st _ from ⟨rfl, rfl⟩) (ite_p (show inP st _ from ⟨rfl, rfl⟩) (ite_p push_i (ite_p run_ii (ite_p cho_i (ite_p (show inP st _ from ⟨rfl, rfl⟩) ((show inP st _ from ⟨rfl, rfl⟩)))))))))))))))))))))
theorem cmd_i {st : AS} {c rg lg : Int} {D : Int → Int} : (cmdA st c rg D lg).2.inp = st.inp ∧ (cmdA st c rg D lg).2.il = st.il := by
  show inP st (cmdA st c rg D lg)
  unfold cmdA
  exact ite_p ⟨rfl, rfl⟩ perf_i
/-! where the reference stands when it looks for a command -/
theorem sr_e {F U X I : Int → Int} {tx lf : Int} {st : AS} (hX : MX F U X tx st) (hI : MI I lf st) : srJ tx lf F U (if 0 < tx then F (tx - 1) else 0) (if 0 < tx then U (tx - 1) else lf) := by
  have e := hX.1
  unfold srJ
  by_cases q : 0 < tx
  · rw [if_pos q, if_pos q]
    obtain ⟨b1, b2, b3, q2, b4, b5, b6⟩ := hX.2 (tx - 1) (by omega) (by omega)
    exact Or.inl ⟨q, by omega, rfl, rfl, b1, by have := b4.1; omega, b2⟩
  · rw [if_neg q, if_neg q]
    exact Or.inr ⟨by omega, rfl, rfl, hI.1.1, hI.1.2⟩
theorem sr_c {F U X I : Int → Int} {tx lf s e : Int} {st : AS} (hX : MX F U X tx st) (hI : MI I lf st) (hs : srJ tx lf F U s e) : ∀ j, s ≤ j → j < e → 32 ≤ gS tx X I j ∧ gS tx X I j ≤ 126 := by
  have hse : s ≤ e := by unfold srJ at hs; omega
  exact (src_x hX hI hs (sk_x hse)).2
theorem isc_e {F U X I : Int → Int} {tx lf s e fm tk tO : Int} {st : AS} (hX : MX F U X tx st) (hI : MI I lf st) (hs : srJ tx lf F U s e) (hl : lkR (gS tx X I) s e tx fm tk tO) : isC st ↔ (1 < tk ∨ (tk = 1 ∧ 0 < tx)) := by
  have hag := (src_x hX hI hs hl.1).1
  have e1 := hX.1
  have ea := hag.1
  unfold isC
  rcases hl.2 with ⟨h1, h2, h3⟩ | ⟨h1, h2, h3, c1, r1, l1, u, hm, hc⟩
  · constructor
    · intro z; omega
    · intro z; omega
  · have hte := tk_e (ms_a hag h1 hm)
    rw [hte.2.2]
    have hub := (ms_b hm (by have := sr_c hX hI hs fm hl.1.1 h1; omega)).1
    constructor
    · rintro ⟨z1, z2⟩
      rcases hc with ⟨k1, k2, k3⟩ | ⟨k1, -⟩ | ⟨k1, -⟩ | ⟨k1, -⟩ | ⟨k1, -⟩ <;> omega
    · intro z
      refine ⟨by omega, ?_⟩
      rcases hc with ⟨k1, k2, k3⟩ | ⟨k1, k2, k3, k4⟩ | ⟨k1, k2, -⟩ | ⟨k1, k2, -⟩ | ⟨k1, k2, -⟩ <;> omega
/-- the input as it stands, from its first character on -/
def MIx (I : Int → Int) (lf : Int) (st : AS) : Prop := (0 ≤ lf ∧ lf ≤ 100) ∧ (∀ j, 0 ≤ j → j < lf → 32 ≤ I j ∧ I j ≤ 126) ∧ agr I 0 lf st.inp st.il
theorem MI_st {I : Int → Int} {lf : Int} {st : AS} (h : MIx I lf st) : MI I lf (strA st) := by
  obtain ⟨h1, h2, h3⟩ := h
  have e := h3.1
  have hs := sk_x (D := st.inp) (p := 0) (e := st.il) (by omega)
  have := sk_sh h3 (by decide) hs
  have k := agr_sh h3 (q := skP st.inp 0 st.il) hs.1
  rw [Int.zero_add, Int.zero_add] at this
  rw [Int.zero_add] at k
  exact ⟨h1, h2, _, this, k⟩
theorem MI_ex {I I1 : Int → Int} {lf q : Int} {st : AS} (h : MI I lf st) (hq : skR I 0 lf q) (h1 : ∀ j, 0 ≤ j → j < lf - q → I1 j = I (q + j)) : MIx I1 (lf - q) st := by
  obtain ⟨a1, a2, q2, a3, a4⟩ := h
  have e := skR_u hq a3
  subst e
  have b1 := hq.1
  have b2 := hq.2.1
  exact ⟨⟨by omega, by omega⟩, fun j x y => by rw [h1 j x y]; exact a2 _ (by omega) (by omega), by have := a4.1; omega, fun j x y => by rw [a4.2 j x y, Int.zero_add, h1 j x (by have := a4.1; omega)]⟩
theorem MIx_MI {I : Int → Int} {lf : Int} {st : AS} (h : MIx I lf st) (h0 : 0 < lf → I 0 ≠ 32) : MI I lf st := ⟨h.1, h.2.1, 0, ⟨by omega, h.1.1, fun j x y => by omega, fun z => h0 z⟩, h.2.2⟩
theorem lop_s {st : AS} {n : Int} (hn : 0 < n) : lopA st n.toNat = lopA st ((n - 1).toNat + 1) := by rw [show n.toNat = (n - 1).toNat + 1 by omega]
theorem lop_n {st : AS} {n : Int} (h : ¬ isC st) : lopA st n.toNat = (0, st) := by
  cases hn : n.toNat with
  | zero => rfl
  | succ m => unfold lopA; rw [if_neg h]
theorem lop_c {st : AS} {n : Int} (hn : 0 < n) (h : isC st) : ((stpA st).1 = 0 → lopA st n.toNat = lopA (stpA st).2 (n - 1).toNat) ∧ ((stpA st).1 ≠ 0 → lopA st n.toNat = stpA st) := by
  rw [lop_s hn]
  constructor
  · intro z
    show lopA st ((n - 1).toNat + 1) = _
    rw [lopA, if_pos h, if_pos z]
  · intro z
    rw [lopA, if_pos h, if_neg z]
theorem lop_0 {st : AS} : lopA st (0 : Int).toNat = (0, st) := rfl
theorem stp_b {st : AS} : -10 ≤ (stpA st).1 ∧ (stpA st).1 ≤ 0 := by
  have h : -10 ≤ (comA st).1 ∧ (comA st).1 ≤ 0 := cmd_bb
  unfold stpA
  split
  · exact h
  · exact h
theorem ans_f {b : Int} {st : AS} (h : b ≠ 0) : ansA (b, st) = b := by unfold ansA; exact if_pos h
theorem ans_0 {st : AS} : (isC st → ansA (0, st) = 1) ∧ (¬ isC st → 0 < st.il → ansA (0, st) = 2) ∧ (¬ isC st → ¬ 0 < st.il → ansA (0, st) = 0) := by
  have e : ¬ ((0, st) : Int × AS).1 ≠ 0 := fun h => h rfl
  unfold ansA
  rw [if_neg e]
  exact ⟨fun h => if_pos h, fun h k => by rw [if_neg h]; exact if_pos k, fun h k => by rw [if_neg h]; exact if_neg k⟩
theorem MA_c {T S C L B F U X P : Int → Int} {hg kk tx pn : Int} {st st1 : AS} (h : MA T S C L B hg kk F U X tx P pn st) (e1 : st1.h = st.h) (e2 : st1.k = st.k) (e3 : st1.reg = st.reg) (e4 : st1.stk = st.stk) (e5 : st1.tn = st.tn) (e6 : st1.tx = st.tx) (e7 : st1.tl = st.tl) (e8 : st1.pg = st.pg) (e9 : st1.pl = st.pl) : MA T S C L B hg kk F U X tx P pn st1 := ⟨MH_c h.1 e1 e2 e3 e4, MX_c h.2.1 e5 e6 e7, MG_c h.2.2 e8 e9⟩
/-! what is typed -/
def typA (st : AS) (c : Int) : Int × AS := if c < 32 ∨ 126 < c ∨ st.il = 100 then (0, st) else (1, (mkA (up st.inp st.il c) (st.il + 1) st.stk st.h st.reg st.k st.tx st.tl st.tn st.pg st.pl))
theorem typA_e {I : Int → Int} {lf c : Int} {st : AS} (h : MIx I lf st) (hc : ¬ (c < 32 ∨ 126 < c ∨ st.il = 100)) : (typA st c).1 = 1 ∧ MIx (up I lf c) (lf + 1) (typA st c).2 := by
  obtain ⟨h1, h2, h3⟩ := h
  have e := h3.1
  unfold typA
  rw [if_neg hc]
  refine ⟨rfl, ⟨by omega, by omega⟩, fun j x y => ?_, ?_, fun j x y => ?_⟩
  · by_cases q : j = lf
    · rw [q, up_s]; omega
    · rw [up_n q]; exact h2 j x (by omega)
  · show st.il + 1 = lf + 1 - 0
    omega
  · have y : j < st.il + 1 := y
    show up st.inp st.il c j = up I lf c (0 + j)
    rw [Int.zero_add]
    by_cases q : j = st.il
    · rw [q, up_s, show st.il = lf by omega, up_s]
    · rw [up_n q, up_n (by omega), h3.2 j x (by omega), Int.zero_add]
def chA (st : AS) (p : Int) : Int := if 0 ≤ p ∧ p < st.pl then st.pg p else 0
