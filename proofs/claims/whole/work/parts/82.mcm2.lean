def MA (T S C L B : Int → Int) (hg kk : Int) (F U X : Int → Int) (tx : Int) (P : Int → Int) (pn : Int) (st : AS) : Prop := MH T S C L B hg kk st ∧ MX F U X tx st ∧ MG P pn st
theorem begA_c {st : AS} {a : Th} : (begA st a).1 = 0 ∨ ((begA st a).1 = -9 ∧ (begA st a).2 = st) := by
  unfold begA
  split
  · exact Or.inl rfl
  · split
    · exact Or.inr ⟨rfl, rfl⟩
    · exact Or.inl rfl
theorem begA_k {st : AS} {a : Th} : (begA st a).2.h = st.h ∧ (begA st a).2.k = st.k ∧ (begA st a).2.reg = st.reg ∧ (begA st a).2.stk = st.stk ∧ (begA st a).2.inp = st.inp ∧ (begA st a).2.il = st.il ∧ (begA st a).2.pg = st.pg ∧ (begA st a).2.pl = st.pl := by
  unfold begA
  split
  · exact ⟨rfl, rfl, rfl, rfl, rfl, rfl, rfl, rfl⟩
  · split <;> exact ⟨rfl, rfl, rfl, rfl, rfl, rfl, rfl, rfl⟩
theorem run_i {st : AS} (h : (st.stk (st.h - 1)).t ≠ 1) : runA st = (0, st) := by
  unfold runA
  rw [if_pos h]
theorem run_n {st : AS} (h : (st.stk (st.h - 1)).t = 1) (hb : (begA st (st.stk (st.h - 1))).1 ≠ 0) : runA st = ((begA st (st.stk (st.h - 1))).1, st) ∧ (begA st (st.stk (st.h - 1))).2 = st := by
  unfold runA
  rw [if_neg (by omega), if_neg hb]
  exact ⟨rfl, (begA_c.resolve_left hb).2⟩
theorem run_0 {st : AS} (h : (st.stk (st.h - 1)).t = 1) (hb : (begA st (st.stk (st.h - 1))).1 = 0) : runA st = (0, (mkA ((begA st (st.stk (st.h - 1))).2).inp ((begA st (st.stk (st.h - 1))).2).il ((begA st (st.stk (st.h - 1))).2).stk (st.h - 1) ((begA st (st.stk (st.h - 1))).2).reg ((begA st (st.stk (st.h - 1))).2).k ((begA st (st.stk (st.h - 1))).2).tx ((begA st (st.stk (st.h - 1))).2).tl ((begA st (st.stk (st.h - 1))).2).tn ((begA st (st.stk (st.h - 1))).2).pg ((begA st (st.stk (st.h - 1))).2).pl)) := by
  unfold runA
  rw [if_neg (by omega), if_pos hb]
theorem calc_f {st : AS} {c b : Int} {T S C L B : Int → Int} (h : rkR b (rkA c st.k (st.stk (st.h - 2)) (st.stk (st.h - 1))) T S C L B) (hb : b < 0) : calcA st c = (b, st) := by
  unfold calcA
  rw [← h.1, if_neg (by omega)]
theorem calc_0 {st : AS} {c b : Int} {T S C L B : Int → Int} (h : rkR b (rkA c st.k (st.stk (st.h - 2)) (st.stk (st.h - 1))) T S C L B) (hb : 0 ≤ b) : calcA st c = (0, (mkA st.inp st.il (upT st.stk (st.h - 2) (rkA c st.k (st.stk (st.h - 2)) (st.stk (st.h - 1))).2) (st.h - 1) st.reg st.k st.tx st.tl st.tn st.pg st.pl)) ∧ MT T S C L B 46 (rkA c st.k (st.stk (st.h - 2)) (st.stk (st.h - 1))).2 := by
  have h0 : b = 0 := by have := h.2.1; omega
  unfold calcA
  rw [← h.1, if_pos h0]
  exact ⟨rfl, h.2.2 h0⟩
theorem sqr_f {st : AS} {b : Int} {T S C L B : Int → Int} (h : rkR b (rooA st.k (st.stk (st.h - 1))) T S C L B) (hb : b < 0) : sqrtA st = (b, st) := by
  unfold sqrtA
  rw [← h.1, if_neg (by omega)]
theorem sqr_0 {st : AS} {b : Int} {T S C L B : Int → Int} (h : rkR b (rooA st.k (st.stk (st.h - 1))) T S C L B) (hb : 0 ≤ b) : sqrtA st = (0, (mkA st.inp st.il (upT st.stk (st.h - 1) (rooA st.k (st.stk (st.h - 1))).2) st.h st.reg st.k st.tx st.tl st.tn st.pg st.pl)) ∧ MT T S C L B 46 (rooA st.k (st.stk (st.h - 1))).2 := by
  have h0 : b = 0 := by have := h.2.1; omega
  unfold sqrtA
  rw [← h.1, if_pos h0]
  exact ⟨rfl, h.2.2 h0⟩
theorem thZ_e {T S C L B : Int → Int} {th : Int} {a : Th} (h : MT T S C L B th a) : thZ a = L th := by
  by_cases q : T th = 0
  · have ht : a.t = 0 := by have := MT_b h; omega
    unfold thZ
    rw [if_neg (by omega), dln_e (T_dl h ht)]
  · exact (th_t h q).2.2.2.1
theorem MH_1 {T S C L B : Int → Int} {hg kk : Int} {st : AS} (h : MH T S C L B hg kk st) (hh : 1 ≤ hg) : MT T S C L B (25 + hg) (st.stk (st.h - 1)) := by
  have := MH_t h (i := st.h - 1) (by have := h.1; omega) (by have := h.1; omega)
  rwa [show 26 + (st.h - 1) = 25 + hg by have := h.1; omega] at this
theorem MH_2 {T S C L B : Int → Int} {hg kk : Int} {st : AS} (h : MH T S C L B hg kk st) (hh : 2 ≤ hg) : MT T S C L B (25 + hg - 1) (st.stk (st.h - 2)) := by
  have := MH_t h (i := st.h - 2) (by have := h.1; omega) (by have := h.1; omega)
  rwa [show 26 + (st.h - 2) = 25 + hg - 1 by have := h.1; omega] at this
theorem MH_u {T1 S1 C1 L1 B1 : Int → Int} {hg kk : Int} {st : AS} {a : Th} (h : MH T1 S1 C1 L1 B1 hg kk (mkA st.inp st.il (upT st.stk (st.h - 1) a) (st.h - 1 + 1) st.reg st.k st.tx st.tl st.tn st.pg st.pl)) : MH T1 S1 C1 L1 B1 hg kk (mkA st.inp st.il (upT st.stk (st.h - 1) a) st.h st.reg st.k st.tx st.tl st.tn st.pg st.pl) :=
  MH_c h (by show st.h = st.h - 1 + 1; omega) rfl rfl rfl
theorem MH_v {T1 S1 C1 L1 B1 : Int → Int} {hg kk : Int} {st : AS} {a : Th} (h : MH T1 S1 C1 L1 B1 hg kk (mkA st.inp st.il (upT st.stk (st.h - 2) a) (st.h - 2 + 1) st.reg st.k st.tx st.tl st.tn st.pg st.pl)) : MH T1 S1 C1 L1 B1 hg kk (mkA st.inp st.il (upT st.stk (st.h - 2) a) (st.h - 1) st.reg st.k st.tx st.tl st.tn st.pg st.pl) :=
  MH_c h (by show st.h - 1 = st.h - 2 + 1; omega) rfl rfl rfl
/-- two change places, by way of the one that is apart -/
theorem MH_sw {T S C L B Ta Sa Ca La Ba Tb Sb Cb Lb Bb Tc Sc Cc Lc Bc : Int → Int} {hg kk : Int} {st : AS} (h : MH T S C L B hg kk st) (hh : 2 ≤ hg) (m1 : ∀ a, MT T S C L B (25 + hg) a → MT Ta Sa Ca La Ba 46 a) (o1 : thO T S C L B Ta Sa Ca La Ba 46) (m2 : ∀ a, MT Ta Sa Ca La Ba (25 + hg - 1) a → MT Tb Sb Cb Lb Bb (25 + hg) a) (o2 : thO Ta Sa Ca La Ba Tb Sb Cb Lb Bb (25 + hg)) (m3 : ∀ a, MT Tb Sb Cb Lb Bb 46 a → MT Tc Sc Cc Lc Bc (25 + hg - 1) a) (o3 : thO Tb Sb Cb Lb Bb Tc Sc Cc Lc Bc (25 + hg - 1)) : MH Tc Sc Cc Lc Bc hg kk (swapA st).2 := by
  have e := h.1
  refine ⟨h.1, h.2.1, fun i x y => MT_o o3 (by omega) (MT_o o2 (by omega) (MT_o o1 (by omega) (h.2.2.1 i x y))), fun i x y => ?_⟩
  show MT Tc Sc Cc Lc Bc (26 + i) (upT (upT st.stk (st.h - 1) (st.stk (st.h - 2))) (st.h - 2) (st.stk (st.h - 1)) i)
  by_cases q : i = st.h - 2
  · rw [q, upT_s, show 26 + (st.h - 2) = 25 + hg - 1 by omega]
    exact m3 _ (MT_o o2 (by omega) (m1 _ (MH_1 h (by omega))))
  · rw [upT_n q]
    by_cases w : i = st.h - 1
    · rw [w, upT_s, show 26 + (st.h - 1) = 25 + hg by omega]
      exact MT_o o3 (by omega) (m2 _ (MT_o o1 (by omega) (MH_2 h hh)))
    · rw [upT_n w]
      exact MT_o o3 (by omega) (MT_o o2 (by omega) (MT_o o1 (by omega) (h.2.2.2 i x y)))
theorem MH_st {T S C L B T1 S1 C1 L1 B1 : Int → Int} {hg kk rg : Int} {st : AS} (h : MH T S C L B hg kk st) (hh : 1 ≤ hg) (hr : 0 ≤ rg ∧ rg < 26) (m : ∀ a, MT T S C L B (25 + hg) a → MT T1 S1 C1 L1 B1 rg a) (o : thO T S C L B T1 S1 C1 L1 B1 rg) : MH T1 S1 C1 L1 B1 (hg - 1) kk (stoA st rg).2 := by
  have e := h.1
  refine ⟨⟨by show hg - 1 = st.h - 1; omega, by omega, by omega⟩, h.2.1, fun i x y => ?_, fun i x y => MT_o o (by omega) (h.2.2.2 i x (by omega))⟩
  show MT T1 S1 C1 L1 B1 i (upT st.reg rg (st.stk (st.h - 1)) i)
  by_cases q : i = rg
  · rw [q, upT_s]; exact m _ (MH_1 h hh)
  · rw [upT_n q]; exact MT_o o q (h.2.2.1 i x y)
theorem nt_e {T S C L B : Int → Int} {hg kk n : Int} {st : AS} (h : MH T S C L B hg kk st) (hn : 0 ≤ n ∧ n ≤ hg) (ha : ∀ j, 0 ≤ j → j < n → T (25 + hg - j) = 0) : ∀ i, st.h - n ≤ i → i < st.h → (st.stk i).t = 0 := fun i x y => by
  have e := h.1
  have b := MT_b (MH_t h (i := i) (by omega) (by omega))
  have c := ha (hg - 1 - i) (by omega) (by omega)
  rw [show 25 + hg - (hg - 1 - i) = 26 + i by omega] at c
  omega
theorem nt_x {T S C L B : Int → Int} {hg kk n : Int} {st : AS} (h : MH T S C L B hg kk st) (hn : 0 ≤ n ∧ n ≤ hg) (ha : ∃ j, 0 ≤ j ∧ j < n ∧ T (25 + hg - j) = 1) : ∃ i, st.h - n ≤ i ∧ i < st.h ∧ (st.stk i).t = 1 := by
  obtain ⟨j, x, y, z⟩ := ha
  have e := h.1
  have b := MT_b (MH_t h (i := hg - 1 - j) (by omega) (by omega))
  rw [show 26 + (hg - 1 - j) = 25 + hg - j by omega] at b
  exact ⟨hg - 1 - j, by omega, by omega, by omega⟩
theorem MA_h {T S C L B F U X P : Int → Int} {hg kk tx pn n : Int} {st : AS} (h : MA T S C L B hg kk F U X tx P pn st) (hn : 0 ≤ n ∧ n ≤ hg) : MA T S C L B n kk F U X tx P pn (mkA st.inp st.il st.stk n st.reg st.k st.tx st.tl st.tn st.pg st.pl) := ⟨MH_h h.1 hn, MX_c h.2.1 rfl rfl rfl, MG_c h.2.2 rfl rfl⟩
/-! a choice -/
theorem hold_e {c r : Int} {a b : Th} (hc : c = 60 ∨ c = 62 ∨ c = 61) (h : ((a.v * PW 10 (max a.sc b.sc - a.sc) < b.v * PW 10 (max a.sc b.sc - b.sc) ∧ r < 0) ∨ (a.v * PW 10 (max a.sc b.sc - a.sc) = b.v * PW 10 (max a.sc b.sc - b.sc) ∧ r = 0) ∨ (b.v * PW 10 (max a.sc b.sc - b.sc) < a.v * PW 10 (max a.sc b.sc - a.sc) ∧ 0 < r)) ∧ -400 ≤ r ∧ r ≤ 400) : holdsA c a b ↔ ((c = 60 ∧ r < 0) ∨ (c = 62 ∧ 0 < r) ∨ (c = 61 ∧ r = 0)) := by
  unfold holdsA cmpA
  rcases hc with rfl | rfl | rfl
  · rw [if_pos rfl]; omega
  · rw [if_neg (by decide), if_pos rfl]; omega
  · rw [if_neg (by decide), if_neg (by decide)]; omega
theorem cho_n {st : AS} {c rg : Int} (h : ¬ holdsA c (st.stk (st.h - 1)) (st.stk (st.h - 2))) : choA st c rg = (0, (mkA st.inp st.il st.stk (st.h - 2) st.reg st.k st.tx st.tl st.tn st.pg st.pl)) := by
  unfold choA
  rw [if_neg (fun z => h z.1), if_neg h]
theorem cho_f {st : AS} {c rg : Int} (h : holdsA c (st.stk (st.h - 1)) (st.stk (st.h - 2))) (hb : (begA st (st.reg rg)).1 ≠ 0) : choA st c rg = ((begA st (st.reg rg)).1, st) ∧ (begA st (st.reg rg)).2 = st := by
  unfold choA
  rw [if_pos ⟨h, hb⟩]
  exact ⟨rfl, (begA_c.resolve_left hb).2⟩
theorem cho_0 {st : AS} {c rg : Int} (h : holdsA c (st.stk (st.h - 1)) (st.stk (st.h - 2))) (hb : (begA st (st.reg rg)).1 = 0) : choA st c rg = (0, (mkA ((begA st (st.reg rg)).2).inp ((begA st (st.reg rg)).2).il ((begA st (st.reg rg)).2).stk (st.h - 2) ((begA st (st.reg rg)).2).reg ((begA st (st.reg rg)).2).k ((begA st (st.reg rg)).2).tx ((begA st (st.reg rg)).2).tl ((begA st (st.reg rg)).2).tn ((begA st (st.reg rg)).2).pg ((begA st (st.reg rg)).2).pl)) := by
  unfold choA
  rw [if_neg (fun z => z.2 hb), if_pos h]
/-! a token is read and taken -/
theorem takA_k {st : AS} {lg : Int} : (takA st lg).h = st.h ∧ (takA st lg).k = st.k ∧ (takA st lg).reg = st.reg ∧ (takA st lg).stk = st.stk ∧ (takA st lg).pg = st.pg ∧ (takA st lg).pl = st.pl := by
  unfold takA
  split
  · split <;> exact ⟨rfl, rfl, rfl, rfl, rfl, rfl⟩
  · exact ⟨rfl, rfl, rfl, rfl, rfl, rfl⟩
theorem num_u {E : Int → Int} {e r0 r1 l u : Int} (h : msR E 0 e (E 0) r0 48 r1 l u) (he : 0 < e) : 1 ≤ l ∧ l ≤ e ∧ (E 0 = 95 ∨ E 0 = 46 ∨ (48 ≤ E 0 ∧ E 0 ≤ 57)) ∧ ∀ j, 1 ≤ j → j < l → E j = 46 ∨ (48 ≤ E j ∧ E j ≤ 57) := by
  unfold msR at h
  rcases h with ⟨a1, a2, _⟩ | ⟨a1, a2⟩ | ⟨a1, a2, q, a3, a4, a5⟩ | ⟨a1, a2, a3, a4, a5, _⟩
  · omega
  · unfold prs at a1; omega
  · rcases a4 with ⟨b1, b2, b3⟩ | ⟨b1, b2, b3⟩
    · have n1 : np E 0 = 0 ∨ np E 0 = 1 := by unfold np; split <;> omega
      obtain ⟨j0, c1, c2, c3⟩ := b1
      refine ⟨by omega, by have := a3.2.1; omega, a1, fun j x y => ?_⟩
      rcases a3.2.2.1 j (by omega) (by omega) with z | z
      · exact Or.inr z
      · exact Or.inl z.1
    · exfalso
      have e1 : np E 0 = 0 := by unfold np; rw [if_neg (by omega)]
      rw [e1] at b1 a3
      have h4 := a3.2.2.2
      have h5 := a3.1
      rcases (show q = 0 ∨ 0 < q by omega) with z | z
      · rw [z] at h4; exact h4 he (Or.inl (by omega))
      · exact b1 ⟨0, by omega, z, by omega⟩
  · exact absurd (Or.inr (Or.inr (by omega))) a3
theorem txt_u {E : Int → Int} {e r0 r1 l : Int} (h : msR E 0 e (E 0) r0 91 r1 l 0) (h0 : E 0 = 91) : 2 ≤ l ∧ l ≤ e := by
  unfold msR at h
  rcases h with ⟨a1, a2, a3, a4⟩ | ⟨a1, a2⟩ | ⟨a1, a2, q, a3, a4, a5⟩ | ⟨a1, a2, a3, a4, a5, _⟩
  · rcases a4 with ⟨-, b1, b2, b3, b4⟩ | ⟨a4, _⟩
    · refine ⟨?_, by omega⟩
      apply Decidable.byContradiction
      intro z
      rw [show l = 0 + 1 by omega, brk_s (by decide), Int.add_zero, h0] at b3
      have h1 : brk E 0 (Int.toNat 0) = 0 := rfl
      have h2 : brs 91 = 1 := rfl
      omega
    · omega
  · unfold prs at a1; omega
  · unfold nst at a1; omega
  · exact absurd h0 a1
theorem pr_u {E : Int → Int} {e r0 c r1 l : Int} (h : msR E 0 e (E 0) r0 c r1 l 0) (hp : prs (E 0)) : 2 ≤ e ∧ l = 2 ∧ ((0 ≤ E 1 - 97 ∧ E 1 - 97 < 26 ∧ c = E 0) ∨ ((E 1 - 97 < 0 ∨ 26 ≤ E 1 - 97) ∧ c = 0)) := by
  unfold msR at h
  rcases h with ⟨a1, _⟩ | ⟨a1, a2⟩ | ⟨a1, _⟩ | ⟨a1, a2, _⟩
  · unfold prs at hp; omega
  · rw [show (0 : Int) + 1 = 1 from rfl] at a2; omega
  · unfold prs at hp; unfold nst at a1; omega
  · exact absurd hp a2
theorem stp_f {st : AS} {e : Int} {q : AS} (h : comA st = (e, q)) (he : e ≠ 0) : stpA st = (e, (mkA q.inp q.il q.stk q.h q.reg q.k q.tx q.tl 0 q.pg q.pl)) := by
  unfold stpA
  rw [h, if_neg he]
theorem stp_0 {st : AS} {q : AS} (h : comA st = (0, q)) : stpA st = (0, q) := by
  unfold stpA
  rw [h, if_pos rfl]
theorem MX_push {F U X : Int → Int} {tx : Int} {st : AS} {a : Th} (h : MX F U X tx st) : MX F U X tx (pushA st a).2 := by
  unfold pushA
  split
  · exact h
  · exact MX_c h rfl rfl rfl
theorem MG_push {P : Int → Int} {pn : Int} {st : AS} {a : Th} (h : MG P pn st) : MG P pn (pushA st a).2 := by
  unfold pushA
  split
  · exact h
  · exact MG_c h rfl rfl
theorem runA_k {st : AS} : (runA st).2.k = st.k ∧ (runA st).2.reg = st.reg ∧ (runA st).2.stk = st.stk ∧ ((runA st).2.h = st.h ∨ ((runA st).2.h = st.h - 1 ∧ (st.stk (st.h - 1)).t = 1)) ∧ (runA st).2.pg = st.pg ∧ (runA st).2.pl = st.pl ∧ (runA st).2.inp = st.inp ∧ (runA st).2.il = st.il := by
  have b := begA_k (st := st) (a := st.stk (st.h - 1))
  by_cases q : (st.stk (st.h - 1)).t = 1
  · by_cases w : (begA st (st.stk (st.h - 1))).1 = 0
    · rw [run_0 q w]; exact ⟨b.2.1, b.2.2.1, b.2.2.2.1, Or.inr ⟨rfl, q⟩, b.2.2.2.2.2.2.1, b.2.2.2.2.2.2.2, b.2.2.2.2.1, b.2.2.2.2.2.1⟩
    · rw [(run_n q w).1]; exact ⟨rfl, rfl, rfl, Or.inl rfl, rfl, rfl, rfl, rfl⟩
  · rw [run_i q]; exact ⟨rfl, rfl, rfl, Or.inl rfl, rfl, rfl, rfl, rfl⟩
theorem prtA_k {st : AS} {c : Int} (hc : c = 112 ∨ c = 110 ∨ c = 102) : (prtA st c).2.k = st.k ∧ (prtA st c).2.reg = st.reg ∧ (prtA st c).2.stk = st.stk ∧ ((prtA st c).2.h = st.h ∨ ((prtA st c).2.h = st.h - 1 ∧ c = 110)) ∧ (prtA st c).2.tn = st.tn ∧ (prtA st c).2.tx = st.tx ∧ (prtA st c).2.tl = st.tl ∧ (prtA st c).2.inp = st.inp ∧ (prtA st c).2.il = st.il := by
  have b := prN_k (st := st) (nl := nwl c) (mny st c).toNat
  by_cases q : 200 < (prN st (nwl c) (mny st c).toNat).pl
  · rw [prt_o hc q]; exact ⟨rfl, rfl, rfl, Or.inl rfl, rfl, rfl, rfl, rfl, rfl⟩
  · rw [prt_e hc (Int.not_lt.mp q)]
    refine ⟨b.2.2.1, b.2.2.2.1, b.2.1, ?_, b.2.2.2.2.1, b.2.2.2.2.2.1, b.2.2.2.2.2.2.1, b.2.2.2.2.2.2.2.1, b.2.2.2.2.2.2.2.2⟩
    show (if c = 110 then st.h - 1 else st.h) = st.h ∨ _
    split
    · exact Or.inr ⟨rfl, by assumption⟩
    · exact Or.inl rfl
theorem MH_q {T S C L B : Int → Int} {hg kk : Int} {st q : AS} (h : MH T S C L B hg kk st) (e2 : q.k = st.k) (e3 : q.reg = st.reg) (e4 : q.stk = st.stk) (e1 : 0 ≤ q.h ∧ q.h ≤ st.h) : MH T S C L B q.h kk q := by
  have a := h.1
  refine ⟨⟨rfl, e1.1, by omega⟩, by rw [e2]; exact h.2.1, fun i x y => by rw [e3]; exact h.2.2.1 i x y, fun i x y => by rw [e4]; exact h.2.2.2 i x (by omega)⟩
theorem sca_e {T S C L B F U X P : Int → Int} {hg kk tx pn k1 h1 r : Int} {st : AS} (h : MA T S C L B hg kk F U X tx P pn st) (hh : 1 ≤ hg) (hq : (r = -4 ∧ k1 = kk ∧ h1 = hg ∧ ((st.stk (st.h - 1)).sc ≠ 0 ∨ (st.stk (st.h - 1)).v < 0 ∨ 40 < (st.stk (st.h - 1)).v)) ∨ (r = 0 ∧ k1 = (st.stk (st.h - 1)).v ∧ h1 = hg - 1 ∧ ¬ ((st.stk (st.h - 1)).sc ≠ 0 ∨ (st.stk (st.h - 1)).v < 0 ∨ 40 < (st.stk (st.h - 1)).v))) : r = (scaleA st).1 ∧ MA T S C L B h1 k1 F U X tx P pn (scaleA st).2 := by
  obtain ⟨a, b, c⟩ := h
  have e := a.1
  unfold scaleA
  rcases hq with ⟨h1, h2, h3, h4⟩ | ⟨h1, h2, h3, h4⟩
  · rw [if_pos h4, h2, h3]; exact ⟨h1, a, b, c⟩
  · rw [if_neg h4, h2, h3]
    refine ⟨h1, ⟨⟨?_, by omega, by omega⟩, ⟨rfl, by omega, by omega⟩, a.2.2.1, fun i x y => a.2.2.2 i x (by omega)⟩, MX_c b rfl rfl rfl, MG_c c rfl rfl⟩
    show hg - 1 = st.h - 1
    omega
theorem need_2 {c : Int} (h : c = 60 ∨ c = 62 ∨ c = 61) : need c = 2 := by unfold need; rw [if_pos (by omega)]
theorem need_1 {c : Int} (h : c = 115) : need c = 1 := by unfold need; rw [if_neg (by omega), if_pos (by omega)]
theorem need_0 {c : Int} (h : c = 108) : need c = 0 := by unfold need; rw [if_neg (by omega), if_neg (by omega)]
/-- an error of the reckoning is small -/
theorem fin_lo {Z s : Int} : -10 ≤ (fin Z s).1 := by
  unfold fin
  split
  · show (-10 : Int) ≤ -7; decide
  · show (-10 : Int) ≤ 0; decide
theorem rkA_lo {c k : Int} {a b : Th} : -10 ≤ (rkA c k a b).1 := by
  unfold rkA sumA mulA divA modA powA
  repeat (first | exact fin_lo | (show (-10 : Int) ≤ _; decide) | split)
theorem rooA_lo {k : Int} {a : Th} : -10 ≤ (rooA k a).1 := by
  unfold rooA
  repeat (first | exact fin_lo | (show (-10 : Int) ≤ _; decide) | split)
theorem rk_lo {c k b n : Int} {x y : Th} {T S C L B : Int → Int} (h : rkR b (if c = 118 then rooA k x else rkA c k x y) T S C L B) (_ : (rks c ∧ n = 2) ∨ (c = 118 ∧ n = 1)) : -10 ≤ b := by
  rw [h.1]
  split
  · exact rooA_lo
  · exact rkA_lo
