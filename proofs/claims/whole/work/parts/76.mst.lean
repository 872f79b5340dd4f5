/-! the reference's state -/
def MH (T S C L B : Int → Int) (hg kk : Int) (st : AS) : Prop := (hg = st.h ∧ 0 ≤ hg ∧ hg ≤ 20) ∧ (kk = st.k ∧ 0 ≤ kk ∧ kk ≤ 40) ∧ (∀ i, 0 ≤ i → i < 26 → MT T S C L B i (st.reg i)) ∧ ∀ i, 0 ≤ i → i < hg → MT T S C L B (26 + i) (st.stk i)
def xtR (X : Int → Int) (i f u : Int) (D : Int → Int) (e : Int) : Prop := 0 ≤ f ∧ u ≤ 60 ∧ (∀ j, f ≤ j → j < u → 32 ≤ X (60 * i + j) ∧ X (60 * i + j) ≤ 126) ∧ ∃ q, skR (sh X (60 * i)) f u q ∧ q < u ∧ agr (sh X (60 * i)) q u D e
def MX (F U X : Int → Int) (tx : Int) (st : AS) : Prop := (tx = st.tn ∧ 0 ≤ tx ∧ tx ≤ 8) ∧ ∀ i, 0 ≤ i → i < tx → xtR X i (F i) (U i) (st.tx i) (st.tl i)
def MI (I : Int → Int) (lf : Int) (st : AS) : Prop := (0 ≤ lf ∧ lf ≤ 100) ∧ (∀ j, 0 ≤ j → j < lf → 32 ≤ I j ∧ I j ≤ 126) ∧ ∃ q, skR I 0 lf q ∧ agr I q lf st.inp st.il
def MG (P : Int → Int) (pn : Int) (st : AS) : Prop := (pn = st.pl ∧ 0 ≤ pn ∧ pn ≤ 200) ∧ ∀ j, 0 ≤ j → j < pn → P j = st.pg j ∧ 0 ≤ P j ∧ P j < 65536
/-! things: what is put on the stack -/
theorem MH_o {T S C L B T1 S1 C1 L1 B1 : Int → Int} {hg kk : Int} {st : AS} (ho : thO T S C L B T1 S1 C1 L1 B1 46) (h : MH T S C L B hg kk st) : MH T1 S1 C1 L1 B1 hg kk st :=
  ⟨h.1, h.2.1, fun i x y => MT_o ho (by omega) (h.2.2.1 i x y), fun i x y => MT_o ho (by have := h.1; omega) (h.2.2.2 i x y)⟩
theorem MH_b {T S C L B : Int → Int} {hg kk : Int} {st : AS} (h : MH T S C L B hg kk st) : (∀ i, 0 ≤ i → i < 26 + hg → T i = 0 ∨ T i = 1) := fun i x y => by
  rcases (show i < 26 ∨ 26 ≤ i by omega) with q | q
  · exact (MT_b (h.2.2.1 i x q)).1
  · have := (MT_b (h.2.2.2 (i - 26) (by omega) (by omega))).1
    rwa [show 26 + (i - 26) = i by omega] at this
theorem MH_t {T S C L B : Int → Int} {hg kk : Int} {st : AS} (h : MH T S C L B hg kk st) {i : Int} (h0 : 0 ≤ i) (hi : i < hg) : MT T S C L B (26 + i) (st.stk i) := h.2.2.2 i h0 hi
/-- the topmost n give way to one -/
theorem MH_put {T S C L B T1 S1 C1 L1 B1 : Int → Int} {hg kk n : Int} {st : AS} {a : Th} (h : MH T S C L B hg kk st) (ha : MT T1 S1 C1 L1 B1 (25 + (hg - n + 1)) a) (ho : thO T S C L B T1 S1 C1 L1 B1 (25 + (hg - n + 1))) (hn : 0 ≤ n ∧ n ≤ hg) (hlt : hg - n < 20) : MH T1 S1 C1 L1 B1 (hg - n + 1) kk (mkA st.inp st.il (upT st.stk (st.h - n) a) (st.h - n + 1) st.reg st.k st.tx st.tl st.tn st.pg st.pl) := by
  have h1 := h.1
  refine ⟨⟨by show hg - n + 1 = st.h - n + 1; omega, by omega, by omega⟩, h.2.1, fun i x y => MT_o ho (by omega) (h.2.2.1 i x y), fun i x y => ?_⟩
  show MT T1 S1 C1 L1 B1 (26 + i) (upT st.stk (st.h - n) a i)
  by_cases q : i = st.h - n
  · rw [q, upT_s, show 26 + (st.h - n) = 25 + (hg - n + 1) by omega]; exact ha
  · rw [upT_n q]; exact MT_o ho (by omega) (h.2.2.2 i x (by omega))
theorem MH_h {T S C L B : Int → Int} {hg kk n : Int} {st : AS} (h : MH T S C L B hg kk st) (hn : 0 ≤ n ∧ n ≤ hg) : MH T S C L B n kk (mkA st.inp st.il st.stk n st.reg st.k st.tx st.tl st.tn st.pg st.pl) :=
  ⟨⟨rfl, hn.1, by have := h.1; omega⟩, h.2.1, h.2.2.1, fun i x y => h.2.2.2 i x (by omega)⟩
theorem MH_k {T S C L B : Int → Int} {hg kk k : Int} {st : AS} (h : MH T S C L B hg kk st) (hk : 0 ≤ k ∧ k ≤ 40) : MH T S C L B hg k (mkA st.inp st.il st.stk st.h st.reg k st.tx st.tl st.tn st.pg st.pl) := ⟨h.1, ⟨rfl, hk⟩, h.2.2⟩
/-- what a command changes elsewhere does not touch the things -/
theorem MH_c {T S C L B : Int → Int} {hg kk : Int} {st st1 : AS} (h : MH T S C L B hg kk st) (e1 : st1.h = st.h) (e2 : st1.k = st.k) (e3 : st1.reg = st.reg) (e4 : st1.stk = st.stk) : MH T S C L B hg kk st1 := by
  unfold MH
  rw [e1, e2, e3, e4]
  exact h
theorem MX_c {F U X : Int → Int} {tx : Int} {st st1 : AS} (h : MX F U X tx st) (e1 : st1.tn = st.tn) (e2 : st1.tx = st.tx) (e3 : st1.tl = st.tl) : MX F U X tx st1 := by
  unfold MX
  rw [e1, e2, e3]
  exact h
theorem MI_c {I : Int → Int} {lf : Int} {st st1 : AS} (h : MI I lf st) (e1 : st1.inp = st.inp) (e2 : st1.il = st.il) : MI I lf st1 := by
  unfold MI
  rw [e1, e2]
  exact h
theorem MG_c {P : Int → Int} {pn : Int} {st st1 : AS} (h : MG P pn st) (e1 : st1.pg = st.pg) (e2 : st1.pl = st.pl) : MG P pn st1 := by
  unfold MG
  rw [e1, e2]
  exact h
theorem MX_0 {F U X : Int → Int} {st : AS} (h : st.tn = 0) : MX F U X 0 st := ⟨⟨h.symm, by omega, by omega⟩, fun i x y => by omega⟩
/-! a result of the reckoning -/
theorem mres_f {r Z s : Int} {T S C L B : Int → Int} (h : mres r Z s T S C L B) : r = (fin Z s).1 ∧ (r = 0 ∨ r < 0) ∧ (r = 0 → MT T S C L B 46 (fin Z s).2) := by
  unfold fin
  rcases h with ⟨h1, h2⟩ | ⟨h1, h2, h3, h4⟩
  · rw [if_pos h2]; exact ⟨h1, Or.inr (by omega), fun q => by omega⟩
  · rw [if_neg (by omega)]; exact ⟨h1, Or.inl h1, fun _ => h4⟩
def rkR (r : Int) (q : Int × Th) (T S C L B : Int → Int) : Prop := r = q.1 ∧ (r = 0 ∨ r < 0) ∧ (r = 0 → MT T S C L B 46 q.2)
theorem rk_e {r e : Int} {a : Th} {T S C L B : Int → Int} (h : r = e) (he : e < 0) : rkR r (e, a) T S C L B := ⟨h, Or.inr (by omega), fun q => by omega⟩
theorem rk_div {r k : Int} {a b : Th} {T S C L B : Int → Int} (h : (b.v = 0 ∧ r = -5) ∨ (b.v ≠ 0 ∧ mres r (szn (a.v * b.v) (qxA k a b / qyA k a b)) k T S C L B)) : rkR r (divA k a b) T S C L B := by
  unfold divA
  rcases h with ⟨h1, h2⟩ | ⟨h1, h2⟩
  · rw [if_pos h1]; exact rk_e h2 (by decide)
  · rw [if_neg h1]; exact mres_f h2
theorem rk_mod {r k : Int} {a b : Th} {T S C L B : Int → Int} (h : (b.v = 0 ∧ r = -5) ∨ (b.v ≠ 0 ∧ 40 < max a.sc (k + b.sc) ∧ r = -7) ∨ (b.v ≠ 0 ∧ max a.sc (k + b.sc) ≤ 40 ∧ mres r (szn a.v (qxA k a b % qyA k a b)) (max a.sc (k + b.sc)) T S C L B)) : rkR r (modA k a b) T S C L B := by
  unfold modA
  rcases h with ⟨h1, h2⟩ | ⟨h1, h2, h3⟩ | ⟨h1, h2, h3⟩
  · rw [if_pos h1]; exact rk_e h2 (by decide)
  · rw [if_neg h1, if_pos h2]; exact rk_e h3 (by decide)
  · rw [if_neg h1, if_neg (by omega)]; exact mres_f h3
theorem rk_pow {r k : Int} {a b : Th} {T S C L B : Int → Int} (h : ((0 < b.sc ∨ 100 ≤ ab b.v) ∧ r = -4) ∨ (b.sc = 0 ∧ ab b.v < 100 ∧ ((b.v < 0 ∧ a.v = 0 ∧ r = -5) ∨ (¬ (b.v < 0 ∧ a.v = 0) ∧ (((200 < ab b.v * a.sc ∨ PW 10 200 ≤ PW (ab a.v) (ab b.v)) ∧ r = -7) ∨ (ab b.v * a.sc ≤ 200 ∧ PW (ab a.v) (ab b.v) < PW 10 200 ∧ ((b.v < 0 ∧ mres r (szn (if ab b.v % 2 = 1 then a.v else 1) (PW 10 (ab b.v * a.sc + k) / PW (ab a.v) (ab b.v))) k T S C L B) ∨ (0 ≤ b.v ∧ mres r (szn (if ab b.v % 2 = 1 then a.v else 1) (PW (ab a.v) (ab b.v) / PW 10 (ab b.v * a.sc - min (ab b.v * a.sc) (max k a.sc)))) (min (ab b.v * a.sc) (max k a.sc)) T S C L B)))))))) : rkR r (powA k a b) T S C L B := by
  unfold powA
  rcases h with ⟨h1, h2⟩ | ⟨h1, h2, h⟩
  · rw [if_pos h1]; exact rk_e h2 (by decide)
  · rw [if_neg (by omega)]
    rcases h with ⟨h3, h4, h5⟩ | ⟨h3, h⟩
    · rw [if_pos ⟨h3, h4⟩]; exact rk_e h5 (by decide)
    · rw [if_neg h3]
      rcases h with ⟨h4, h5⟩ | ⟨h4, h5, h⟩
      · rw [if_pos h4]; exact rk_e h5 (by decide)
      · rw [if_neg (by omega)]
        rcases h with ⟨h6, h7⟩ | ⟨h6, h7⟩
        · rw [if_pos h6]; exact mres_f h7
        · rw [if_neg (by omega)]; exact mres_f h7
theorem rk_roo {r k : Int} {a : Th} {T S C L B : Int → Int} (h : (a.v < 0 ∧ r = -6) ∨ (0 ≤ a.v ∧ ∃ rt, isq rt (a.v * PW 10 (2 * max k a.sc - a.sc)) ∧ mres r rt (max k a.sc) T S C L B)) : rkR r (rooA k a) T S C L B := by
  unfold rooA
  rcases h with ⟨h1, h2⟩ | ⟨h1, rt, h2, h3⟩
  · rw [if_pos h1]; exact rk_e h2 (by decide)
  · rw [if_neg (by omega), rtI_e h2]; exact mres_f h3
