/-! a token is one alone -/
theorem txR_u {D : Int → Int} {p e m n : Int} (h1 : txR D p e m) (h2 : txR D p e n) : m = n := by
  obtain ⟨a1, a2, a3, a4⟩ := h1
  obtain ⟨b1, b2, b3, b4⟩ := h2
  apply Decidable.byContradiction
  intro z
  rcases (show m < n ∨ n < m by omega) with h | h
  · exact b4 m a1 h a3
  · exact a4 n b1 h b3
theorem nmR_u {D : Int → Int} {p e q r : Int} (h1 : nmR D p e q) (h2 : nmR D p e r) : q = r := by
  obtain ⟨a1, a2, a3, a4⟩ := h1
  obtain ⟨b1, b2, b3, b4⟩ := h2
  apply Decidable.byContradiction
  intro z
  rcases (show q < r ∨ r < q by omega) with h | h
  · exact a4 (by omega) (b3 q a1 h)
  · exact b4 (by omega) (a3 r b1 h)
theorem ms_u {D : Int → Int} {st en c r0 c1 r1 l1 u1 s0 c2 r2 l2 u2 : Int} (h1 : msR D st en c r0 c1 r1 l1 u1) (h2 : msR D st en c s0 c2 r2 l2 u2) : c1 = c2 ∧ l1 = l2 ∧ u1 = u2 := by
  unfold msR at h1 h2
  rcases h1 with ⟨a1, a2, a3, a4⟩ | ⟨a1, a2⟩ | ⟨a1, a2, q, a3, a4, a5⟩ | ⟨a1, a2, a3, a4, a5, a6, a7⟩
  · rcases h2 with ⟨b1, b2, b3, b4⟩ | ⟨b1, b2⟩ | ⟨b1, b2, q, b3, b4, b5⟩ | ⟨b1, b2, b3, b4, b5, b6, b7⟩
    · rcases a4 with ⟨a4, a5⟩ | ⟨a4, a5, a6⟩ <;> rcases b4 with ⟨b4, b5⟩ | ⟨b4, b5, b6⟩
      · exact ⟨by omega, txR_u a5 b5, by omega⟩
      · exact absurd a5.2.2.1 (b6 l1 a5.1 a5.2.1)
      · exact absurd b5.2.2.1 (a6 l2 b5.1 b5.2.1)
      · exact ⟨by omega, by omega, by omega⟩
    · unfold prs at b1; omega
    · unfold nst at b1; omega
    · omega
  · rcases h2 with ⟨b1, b2, b3, b4⟩ | ⟨b1, b2⟩ | ⟨b1, b2, q, b3, b4, b5⟩ | ⟨b1, b2, b3, b4, b5, b6, b7⟩
    · unfold prs at a1; omega
    · omega
    · unfold prs at a1; unfold nst at b1; omega
    · exact absurd a1 b2
  · rcases h2 with ⟨b1, b2, b3, b4⟩ | ⟨b1, b2⟩ | ⟨b1, b2, r, b3, b4, b5⟩ | ⟨b1, b2, b3, b4, b5, b6, b7⟩
    · unfold nst at a1; omega
    · unfold prs at b1; unfold nst at a1; omega
    · have e := nmR_u a3 b3
      subst e
      rcases a4 with ⟨d1, d2, d3⟩ | ⟨d1, d2, d3⟩ <;> rcases b4 with ⟨e1, e2, e3⟩ | ⟨e1, e2, e3⟩
      · exact ⟨by omega, by omega, by omega⟩
      · exact absurd d1 e1
      · exact absurd e1 d1
      · exact ⟨by omega, by omega, by omega⟩
    · exact absurd a1 b3
  · rcases h2 with ⟨b1, b2, b3, b4⟩ | ⟨b1, b2⟩ | ⟨b1, b2, q, b3, b4, b5⟩ | ⟨b1, b2, b3, b4, b5, b6, b7⟩
    · omega
    · exact absurd b1 a2
    · exact absurd b1 a3
    · omega
/-! the same characters, counted from 0 on -/
def agr (D : Int → Int) (p en : Int) (E : Int → Int) (e : Int) : Prop := e = en - p ∧ ∀ j, 0 ≤ j → j < e → E j = D (p + j)
theorem brk_a {D E : Int → Int} {p en e : Int} (h : agr D p en E e) : ∀ n : Nat, (n : Int) ≤ e → brk E 0 n = brk D p n
  | 0, _ => rfl
  | n + 1, hn => by
    show brk E 0 n + brs (E (0 + n)) = brk D p n + brs (D (p + n))
    rw [brk_a h n (by omega), Int.zero_add, h.2 n (by omega) (by omega)]
theorem okc_a {D E : Int → Int} {p en e a j : Int} (h : agr D p en E e) (ha : 0 ≤ a) (hj : a ≤ j) (hje : j < e) : okc E a j ↔ okc D (p + a) (p + j) := by
  unfold okc
  rw [h.2 j (by omega) hje]
  constructor
  · rintro (q | ⟨q1, q2⟩)
    · exact Or.inl q
    · refine Or.inr ⟨q1, fun i x y => ?_⟩
      have := q2 (i - p) (by omega) (by omega)
      rwa [h.2 _ (by omega) (by omega), show p + (i - p) = i by omega] at this
  · rintro (q | ⟨q1, q2⟩)
    · exact Or.inl q
    · refine Or.inr ⟨q1, fun i x y => ?_⟩
      rw [h.2 i (by omega) (by omega)]
      exact q2 _ (by omega) (by omega)
theorem nmR_a {D E : Int → Int} {p en e a q : Int} (h : agr D p en E e) (ha : 0 ≤ a) (hR : nmR D (p + a) en q) : nmR E a e (q - p) := by
  obtain ⟨a1, a2, a3, a4⟩ := hR
  have he := h.1
  refine ⟨by omega, by omega, fun j x y => (okc_a h ha x (by omega)).mpr (a3 _ (by omega) (by omega)), fun x y => a4 (by omega) ?_⟩
  have := (okc_a h ha (show a ≤ q - p by omega) x).mp y
  rwa [show p + (q - p) = q by omega] at this
theorem hasD_a {D E : Int → Int} {p en e a q : Int} (h : agr D p en E e) (ha : 0 ≤ a) (hq : q ≤ en) : hasD E a (q - p) ↔ hasD D (p + a) q := by
  have he := h.1
  constructor
  · rintro ⟨j, x, y, z⟩
    rw [h.2 j (by omega) (by omega)] at z
    exact ⟨p + j, by omega, by omega, z⟩
  · rintro ⟨j, x, y, z⟩
    refine ⟨j - p, by omega, by omega, ?_⟩
    rwa [h.2 _ (by omega) (by omega), show p + (j - p) = j by omega]
theorem ms_a {D E : Int → Int} {p en e r0 c1 r1 l1 u1 : Int} (h : agr D p en E e) (hp : p < en) (hm : msR D p en (D p) r0 c1 r1 l1 u1) : msR E 0 e (E 0) r0 c1 r1 l1 u1 := by
  have he := h.1
  have e0 : E 0 = D p := by rw [h.2 0 (by omega) (by omega), Int.add_zero]
  have en1 : np E 0 = np D p - p := by unfold np; rw [e0]; split <;> omega
  have en2 : np D p = p + (np D p - p) := by omega
  have en3 : 0 ≤ np D p - p := by unfold np; split <;> omega
  rw [e0]
  unfold msR at hm ⊢
  rcases hm with ⟨a1, a2, a3, a4⟩ | ⟨a1, a2⟩ | ⟨a1, a2, q, a3, a4, a5⟩ | a
  · refine Or.inl ⟨a1, a2, a3, ?_⟩
    rcases a4 with ⟨a4, b1, b2, b3, b4⟩ | ⟨a4, a5, a6⟩
    · refine Or.inl ⟨a4, b1, by omega, by rw [brk_a h _ (by omega)]; exact b3, fun j x y => by rw [brk_a h _ (by omega)]; exact b4 j x y⟩
    · exact Or.inr ⟨a4, a5, fun j x y => by rw [brk_a h _ (by omega)]; exact a6 j x (by omega)⟩
  · refine Or.inr (Or.inl ⟨a1, ?_⟩)
    rcases a2 with a2 | ⟨b1, b2, b3, b4, b5⟩
    · exact Or.inl (by omega)
    · rw [h.2 (0 + 1) (by omega) (by omega), show p + (0 + 1) = p + 1 by omega]
      exact Or.inr ⟨b1, by omega, b3, b4, b5⟩
  · refine Or.inr (Or.inr (Or.inl ⟨a1, a2, q - p, ?_, ?_, by omega⟩))
    · rw [en1]
      exact nmR_a h en3 (by rw [← en2]; exact a3)
    · rw [en1, hasD_a h en3 a3.2.1, ← en2]
      rcases a4 with ⟨b1, b2, b3⟩ | ⟨b1, b2, b3⟩
      · exact Or.inl ⟨b1, b2, by omega⟩
      · exact Or.inr ⟨b1, b2, b3⟩
  · exact Or.inr (Or.inr (Or.inr a))
/-! the token that stands at the front -/
noncomputable def tkC (D : Int → Int) (e : Int) : Int := pick (fun c => ∃ r0 r1 l u, msR D 0 e (D 0) r0 c r1 l u)
noncomputable def tkL (D : Int → Int) (e : Int) : Int := pick (fun l => ∃ r0 c r1 u, msR D 0 e (D 0) r0 c r1 l u)
noncomputable def tkU (D : Int → Int) (e : Int) : Int := pick (fun u => ∃ r0 c r1 l, msR D 0 e (D 0) r0 c r1 l u)
theorem tk_e {D : Int → Int} {e r0 c r1 l u : Int} (h : msR D 0 e (D 0) r0 c r1 l u) : tkC D e = c ∧ tkL D e = l ∧ tkU D e = u :=
  ⟨pick_e ⟨_, _, _, _, h⟩ (fun _ ⟨_, _, _, _, k⟩ => (ms_u k h).1), pick_e ⟨_, _, _, _, h⟩ (fun _ ⟨_, _, _, _, k⟩ => (ms_u k h).2.1), pick_e ⟨_, _, _, _, h⟩ (fun _ ⟨_, _, _, _, k⟩ => (ms_u k h).2.2)⟩
/-! where characters come from -/
def srD (st : AS) : Int → Int := if 0 < st.tn then st.tx (st.tn - 1) else st.inp
def srE (st : AS) : Int := if 0 < st.tn then st.tl (st.tn - 1) else st.il
def isC (st : AS) : Prop := 0 < srE st ∧ (0 < st.tn ∨ tkU (srD st) (srE st) = 0)
noncomputable def cmC (st : AS) : Int := if tkU (srD st) (srE st) = 1 ∧ 0 < st.tn ∧ tkC (srD st) (srE st) ≠ 48 then 0 else tkC (srD st) (srE st)
noncomputable def takA (st : AS) (lg : Int) : AS :=
  if 0 < st.tn then
    if skP (srD st) lg (srE st) = srE st then (mkA st.inp st.il st.stk st.h st.reg st.k st.tx st.tl (st.tn - 1) st.pg st.pl)
    else (mkA st.inp st.il st.stk st.h st.reg st.k (upT st.tx (st.tn - 1) (sh (srD st) (skP (srD st) lg (srE st)))) (upT st.tl (st.tn - 1) (srE st - skP (srD st) lg (srE st))) st.tn st.pg st.pl)
  else (mkA (sh st.inp (skP st.inp lg st.il)) (st.il - skP st.inp lg st.il) st.stk st.h st.reg st.k st.tx st.tl st.tn st.pg st.pl)
noncomputable def comA (st : AS) : Int × AS := cmdA (takA st (tkL (srD st) (srE st))) (cmC st) (srD st 1 - 97) (srD st) (tkL (srD st) (srE st))
noncomputable def stpA (st : AS) : Int × AS := if (comA st).1 = 0 then comA st else ((comA st).1, (mkA ((comA st).2).inp ((comA st).2).il ((comA st).2).stk ((comA st).2).h ((comA st).2).reg ((comA st).2).k ((comA st).2).tx ((comA st).2).tl 0 ((comA st).2).pg ((comA st).2).pl))
noncomputable def lopA (st : AS) : Nat → Int × AS
  | 0 => (0, st)
  | n + 1 => by
    classical exact if isC st then (if (stpA st).1 = 0 then lopA (stpA st).2 n else stpA st) else (0, st)
noncomputable def strA (st : AS) : AS := (mkA (sh st.inp (skP st.inp 0 st.il)) (st.il - skP st.inp 0 st.il) st.stk st.h st.reg st.k st.tx st.tl st.tn st.pg st.pl)
noncomputable def ansA (q : Int × AS) : Int := by
  classical exact if q.1 ≠ 0 then q.1 else if isC q.2 then 1 else if 0 < q.2.il then 2 else 0
