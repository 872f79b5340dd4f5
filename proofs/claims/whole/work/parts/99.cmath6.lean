/-! what a command leaves alone -/
def kpP (st q : AS) : Prop := q.tn = st.tn ∧ q.tx = st.tx ∧ q.tl = st.tl ∧ q.pg = st.pg ∧ q.pl = st.pl
theorem kp_r {st q : AS} (h1 : q.tn = st.tn) (h2 : q.tx = st.tx) (h3 : q.tl = st.tl) (h4 : q.pg = st.pg) (h5 : q.pl = st.pl) : kpP st q := ⟨h1, h2, h3, h4, h5⟩
theorem ite_q {P : AS → Prop} {c : Prop} {d : Decidable c} {a b : Int × AS} (ha : P a.2) (hb : P b.2) : P (@ite _ c d a b).2 := by
  by_cases h : c
  · rw [if_pos h]; exact ha
  · rw [if_neg h]; exact hb
theorem push_kp {st : AS} {a : Th} : kpP st (pushA st a).2 := by unfold pushA; exact ite_q ⟨rfl, rfl, rfl, rfl, rfl⟩ ⟨rfl, rfl, rfl, rfl, rfl⟩
theorem num_kp {st : AS} {D : Int → Int} {lg : Int} : kpP st (numA st D lg).2 := by unfold numA; exact ite_q ⟨rfl, rfl, rfl, rfl, rfl⟩ push_kp
theorem txt_kp {st : AS} {D : Int → Int} {lg : Int} : kpP st (txtA st D lg).2 := by unfold txtA; exact ite_q ⟨rfl, rfl, rfl, rfl, rfl⟩ push_kp
theorem calc_kp {st : AS} {c : Int} : kpP st (calcA st c).2 := by unfold calcA; exact ite_q ⟨rfl, rfl, rfl, rfl, rfl⟩ ⟨rfl, rfl, rfl, rfl, rfl⟩
theorem sqr_kp {st : AS} : kpP st (sqrtA st).2 := by unfold sqrtA; exact ite_q ⟨rfl, rfl, rfl, rfl, rfl⟩ ⟨rfl, rfl, rfl, rfl, rfl⟩
theorem sca_kp {st : AS} : kpP st (scaleA st).2 := by unfold scaleA; exact ite_q ⟨rfl, rfl, rfl, rfl, rfl⟩ ⟨rfl, rfl, rfl, rfl, rfl⟩
theorem CX_kp {tp : Nat → TS} {tr : Int} {st q : AS} (h : CX tp tr st) (k : kpP st q) : CX tp tr q := CX_c h k.1 k.2.1 k.2.2.1
theorem MG_kp {P : Int → Int} {pl : Int} {st q : AS} (h : MG P pl st) (k : kpP st q) : MG P pl q := MG_c h k.2.2.2.1 k.2.2.2.2
theorem CH_q {si : Int → Nat} {vs : Nat → VS} {hg wk : Int} {st q : AS} (h : CH si vs hg wk st) (e2 : q.k = st.k) (e3 : q.reg = st.reg) (e4 : q.stk = st.stk) (e1 : 0 ≤ q.h ∧ q.h ≤ st.h) : CH si vs q.h wk q := by
  have a := h.1
  refine ⟨⟨rfl, e1.1, by omega⟩, by rw [e2]; exact h.2.1, h.2.2.1, h.2.2.2.1, fun i x y => by rw [e3]; exact h.2.2.2.2.1 i x y, fun i x y => by rw [e4]; exact h.2.2.2.2.2 i x (by omega)⟩
theorem perf_d {st : AS} {c rg lg : Int} {D : Int → Int} (h1 : c ≠ 48 ∧ c ≠ 91 ∧ c ≠ 118 ∧ c ≠ 100 ∧ c ≠ 114 ∧ c ≠ 99 ∧ c ≠ 122 ∧ c ≠ 75 ∧ c ≠ 107 ∧ c ≠ 112 ∧ c ≠ 110 ∧ c ≠ 102) (h2 : c ≠ 90 ∧ c ≠ 88 ∧ c ≠ 115 ∧ c ≠ 108 ∧ c ≠ 120 ∧ c ≠ 60 ∧ c ≠ 62 ∧ c ≠ 61 ∧ c ≠ 113) (h3 : c ≠ 43 ∧ c ≠ 45 ∧ c ≠ 42 ∧ c ≠ 47 ∧ c ≠ 37 ∧ c ≠ 94) : perfA st c rg D lg = (-1, st) := by
  unfold perfA
  rw [if_neg (by omega), if_neg (by omega), if_neg (by omega), if_neg (by omega), if_neg (by omega), if_neg (by omega), if_neg (by omega), if_neg (by omega), if_neg (by omega), if_neg (by omega), if_neg (by omega), if_neg (by omega), if_neg (by omega), if_neg (by omega), if_neg (by omega), if_neg (by omega), if_neg (by omega), if_neg (by omega), if_neg (by omega), if_neg (by omega)]
theorem cho_k {st : AS} {c rg : Int} : (choA st c rg).2.k = st.k ∧ (choA st c rg).2.reg = st.reg ∧ (choA st c rg).2.stk = st.stk ∧ ((choA st c rg).2.h = st.h ∨ (choA st c rg).2.h = st.h - 2) ∧ (choA st c rg).2.pg = st.pg ∧ (choA st c rg).2.pl = st.pl := by
  have b := begA_k (st := st) (a := st.reg rg)
  by_cases q : holdsA c (st.stk (st.h - 1)) (st.stk (st.h - 2))
  · by_cases w : (begA st (st.reg rg)).1 = 0
    · rw [cho_0 q w]; exact ⟨b.2.1, b.2.2.1, b.2.2.2.1, Or.inr rfl, b.2.2.2.2.2.2.1, b.2.2.2.2.2.2.2⟩
    · rw [(cho_f q w).1]; exact ⟨rfl, rfl, rfl, Or.inl rfl, rfl, rfl⟩
  · rw [cho_n q]; exact ⟨rfl, rfl, rfl, Or.inr rfl, rfl, rfl⟩
theorem prt_3 {st : AS} : prtA st 112 = p1A st ∧ prtA st 110 = pnA st ∧ prtA st 102 = pfA st := by
  refine ⟨?_, ?_, ?_⟩
  · unfold prtA; rw [if_pos rfl]
  · unfold prtA; rw [if_neg (by decide), if_pos rfl]
  · unfold prtA; rw [if_neg (by decide), if_neg (by decide)]
theorem CH_pr {si : Int → Nat} {vs : Nat → VS} {hg wk : Int} {st : AS} {c : Int} (h : CH si vs hg wk st) (hc : c = 112 ∨ c = 110 ∨ c = 102) (hh : c = 110 → 1 ≤ hg) : CH si vs (prtA st c).2.h wk (prtA st c).2 := by
  have k := prtA_k (st := st) hc
  have e := h.1
  refine CH_q h k.1 k.2.1 k.2.2.1 ?_
  rcases k.2.2.2.1 with z | ⟨z, w⟩
  · omega
  · have := hh w; omega
theorem CX_pr {tp : Nat → TS} {tr : Int} {st : AS} {c : Int} (h : CX tp tr st) (hc : c = 112 ∨ c = 110 ∨ c = 102) : CX tp tr (prtA st c).2 := by
  have k := prtA_k (st := st) hc
  exact CX_c h k.2.2.2.2.1 k.2.2.2.2.2.1 k.2.2.2.2.2.2.1
theorem need_c {c : Int} : (rks c → need c = 2) ∧ (c = 114 → need c = 2) ∧ (c = 60 ∨ c = 62 ∨ c = 61 → need c = 2) ∧ (c = 118 ∨ c = 100 ∨ c = 107 ∨ c = 112 ∨ c = 110 ∨ c = 90 ∨ c = 88 ∨ c = 115 ∨ c = 120 → need c = 1) := by
  unfold rks need
  refine ⟨fun h => if_pos (by omega), fun h => if_pos (by omega), fun h => if_pos (by omega), fun h => ?_⟩
  rw [if_neg (by omega), if_pos (by omega)]
theorem CX_0 {tp : Nat → TS} {st : AS} (h : st.tn = 0) : CX tp 0 st := ⟨⟨by omega, by omega, by omega⟩, fun i x y => by omega, fun i x y => by omega⟩
