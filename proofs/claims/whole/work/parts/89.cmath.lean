theorem upF_id {α : Type} {f : Nat → α} {k : Nat} {v : α} (h : v = f k) : upF f k v = f := by
  funext j
  by_cases q : j = k
  · rw [q, upF_s, h]
  · exact upF_n q
theorem upF_id2 {α : Type} {f : Nat → α} {k j : Nat} {v w : α} (hkj : k ≠ j) (h : w = f j) : upF (upF f k v) j w = upF f k v := upF_id (by rw [upF_n (fun e => hkj e.symm)]; exact h)
theorem upN_sf {b : Nat} {si : Int → Nat} {z : Int} {k : Nat} : upN (sfA b si) z (b + 38 + 4 * k) = sfA b (upN si z k) := by
  funext j
  by_cases q : j = z
  · rw [q, upN_s]; show _ = b + 38 + 4 * upN si z k z; rw [upN_s]
  · rw [upN_n q]; show b + 38 + 4 * si j = b + 38 + 4 * upN si z k j; rw [upN_n q]
theorem CV_c {t ng sc ln u N : Int} {C F1 C1 : Int → Int} {a : Th} (hV : VV t ng sc ln C N) (e1 : a.t = t) (e2 : a.v = sg ng N) (e3 : a.sc = sc) (e4 : a.ln = ln) (e5 : ∀ j, 0 ≤ j → j < a.ln → a.ch j = C j) (hW : WR F1 u N) (hC : ∀ j, 0 ≤ j → j < ln → C1 j = C j) : CV (t, ng, sc, ln, u, C1, F1) a :=
  ⟨N, VV_c hV hC, hW, e1, e2, e3, e4, fun j x y => by rw [e5 j x y]; exact (hC j x (by omega)).symm⟩
theorem CV_count {u k : Int} {C F : Int → Int} (h : WR F u k) (hk : 0 ≤ k ∧ k < 1000000000) : CV (0, 0, 0, 0, u, C, F) (mkN k 0) := by
  have p := PW_mono (b := 10) (i := 9) (j := 60) (by decide) (by decide) (by decide)
  rw [show PW 10 9 = 1000000000 from rfl] at p
  refine ⟨k, ⟨Or.inl rfl, Or.inl rfl, by show 0 ≤ (0 : Int) ∧ (0 : Int) ≤ 40; decide, by show 0 ≤ (0 : Int) ∧ (0 : Int) ≤ 60; decide, fun j x y => ?_, fun _ => rfl, fun z => ?_, fun z => ?_, by omega⟩, h, rfl, rfl, rfl, rfl, fun j x y => ?_⟩
  · have y : j < 0 := y
    omega
  · have z : (0 : Int) = 1 := z
    omega
  · have z : (0 : Int) = 1 := z
    omega
  · have y : j < 0 := y
    omega
/-- one value gives way to another, somewhere on the stack -/
theorem CH_set {si : Int → Nat} {vs : Nat → VS} {hg wk i0 h1 : Int} {st : AS} {v : VS} {a : Th} (h : CH si vs hg wk st) (ha : CV v a) (hi : 0 ≤ i0 ∧ i0 < h1) (hh : h1 ≤ hg) : CH si (upF vs (si i0) v) h1 wk (mkA st.inp st.il (upT st.stk i0 a) h1 st.reg st.k st.tx st.tl st.tn st.pg st.pl) := by
  obtain ⟨h1', h2, h3, h4, h5, h6⟩ := h
  have hs := h3 i0 (by omega) (by omega)
  refine ⟨⟨rfl, by omega, by omega⟩, h2, h3, h4, fun i x y => ?_, fun i x y => ?_⟩
  · rw [upF_n (by omega)]; exact h5 i x y
  · show CV (upF vs (si i0) v (si i)) (upT st.stk i0 a i)
    by_cases q : i = i0
    · rw [q, upF_s, upT_s]; exact ha
    · rw [upF_n (fun z => q (h4 i i0 x (by omega) (by omega) (by omega) z)), upT_n q]; exact h6 i x (by omega)
theorem CH_h {si : Int → Nat} {vs : Nat → VS} {hg wk n : Int} {st : AS} (h : CH si vs hg wk st) (hn : 0 ≤ n ∧ n ≤ hg) : CH si vs n wk (mkA st.inp st.il st.stk n st.reg st.k st.tx st.tl st.tn st.pg st.pl) :=
  ⟨⟨rfl, hn.1, by have := h.1; omega⟩, h.2.1, h.2.2.1, h.2.2.2.1, h.2.2.2.2.1, fun i x y => h.2.2.2.2.2 i x (by omega)⟩
theorem CH_c {si : Int → Nat} {vs : Nat → VS} {hg wk : Int} {st st1 : AS} (h : CH si vs hg wk st) (e1 : st1.h = st.h) (e2 : st1.k = st.k) (e3 : st1.reg = st.reg) (e4 : st1.stk = st.stk) : CH si vs hg wk st1 := by
  unfold CH
  rw [e1, e2, e3, e4]
  exact h
theorem CH_k {si : Int → Nat} {vs : Nat → VS} {hg wk k : Int} {st : AS} (h : CH si vs hg wk st) (hk : 0 ≤ k ∧ k ≤ 40) : CH si vs hg k (mkA st.inp st.il st.stk st.h st.reg k st.tx st.tl st.tn st.pg st.pl) := ⟨h.1, ⟨rfl, hk⟩, h.2.2⟩
theorem CH_sto {si : Int → Nat} {vs : Nat → VS} {hg wk rg : Int} {st : AS} {v : VS} (h : CH si vs hg wk st) (ha : CV v (st.stk (st.h - 1))) (hh : 1 ≤ hg) (hr : 0 ≤ rg ∧ rg < 26) : CH si (upF vs (20 + rg.toNat) v) (hg - 1) wk (stoA st rg).2 := by
  obtain ⟨h1, h2, h3, h4, h5, h6⟩ := h
  refine ⟨⟨by show hg - 1 = st.h - 1; omega, by omega, by omega⟩, h2, h3, h4, fun i x y => ?_, fun i x y => ?_⟩
  · show CV (upF vs (20 + rg.toNat) v (20 + i.toNat)) (upT st.reg rg (st.stk (st.h - 1)) i)
    by_cases q : i = rg
    · rw [q, upF_s, upT_s]; exact ha
    · rw [upF_n (by omega), upT_n q]; exact h5 i x y
  · have := h3 i x (by omega)
    rw [upF_n (by omega)]; exact h6 i x (by omega)
theorem CH_sw {si : Int → Nat} {vs : Nat → VS} {hg wk : Int} {st : AS} (h : CH si vs hg wk st) (hh : 2 ≤ hg) : CH (upN (upN si (hg - 1) (si (hg - 2))) (hg - 2) (si (hg - 1))) vs hg wk (swapA st).2 := by
  obtain ⟨h1, h2, h3, h4, h5, h6⟩ := h
  have key : ∀ i, upN (upN si (hg - 1) (si (hg - 2))) (hg - 2) (si (hg - 1)) i = si (if i = hg - 2 then hg - 1 else if i = hg - 1 then hg - 2 else i) := fun i => by
    by_cases q : i = hg - 2
    · rw [q, upN_s, if_pos rfl]
    · rw [upN_n q, if_neg q]
      by_cases w : i = hg - 1
      · rw [w, upN_s, if_pos rfl]
      · rw [upN_n w, if_neg w]
  refine ⟨h1, h2, fun i x y => ?_, fun i j x y z w e => ?_, h5, fun i x y => ?_⟩
  · rw [key]; exact h3 _ (by split; omega; split <;> omega) (by split; omega; split <;> omega)
  · rw [key, key] at e
    have := h4 _ _ (by split; omega; split <;> omega) (by split; omega; split <;> omega) (by split; omega; split <;> omega) (by split; omega; split <;> omega) e
    revert this
    split <;> split <;> (try split) <;> (try split) <;> omega
  · rw [key]
    show CV _ (upT (upT st.stk (st.h - 1) (st.stk (st.h - 2))) (st.h - 2) (st.stk (st.h - 1)) i)
    rw [← h1.1]
    by_cases q : i = hg - 2
    · rw [if_pos q, q, upT_s]; exact h6 _ (by omega) (by omega)
    · rw [if_neg q, upT_n q]
      by_cases w : i = hg - 1
      · rw [if_pos w, w, upT_s]; exact h6 _ (by omega) (by omega)
      · rw [if_neg w, upT_n w]; exact h6 i x y
theorem CH_msr {si : Int → Nat} {vs : Nat → VS} {hg wk n : Int} {st : AS} {v : VS} (h : CH si vs hg wk st) (hh : 1 ≤ hg) (ha : CV v (mkN n 0)) : CH si (upF vs (si (hg - 1)) v) hg wk (mkA st.inp st.il (upT st.stk (st.h - 1) (mkN n 0)) st.h st.reg st.k st.tx st.tl st.tn st.pg st.pl) := by
  have e := h.1
  have h2 := CH_set h (i0 := hg - 1) ha ⟨by omega, by omega⟩ (Int.le_refl hg)
  refine CH_c h2 ?_ rfl rfl ?_
  · show st.h = hg
    omega
  · show upT st.stk (st.h - 1) _ = upT st.stk (hg - 1) _
    rw [e.1]
theorem len_e {st : AS} {n : Int} (h : thZ (st.stk (st.h - 1)) = n) : (lenA st).2 = (mkA st.inp st.il (upT st.stk (st.h - 1) (mkN n 0)) st.h st.reg st.k st.tx st.tl st.tn st.pg st.pl) := by
  unfold lenA
  rw [h]
theorem xsc_e {st : AS} {n : Int} (h : (st.stk (st.h - 1)).sc = n) : (xscA st).2 = (mkA st.inp st.il (upT st.stk (st.h - 1) (mkN n 0)) st.h st.reg st.k st.tx st.tl st.tn st.pg st.pl) := by
  unfold xscA
  rw [h]
