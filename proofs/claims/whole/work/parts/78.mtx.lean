theorem put_0 {r hg h1 kk : Int} {T S C L B T1 S1 C1 L1 B1 : Int → Int} {st : AS} {a : Th} (hp : putR r hg 0 h1 T S C L B T1 S1 C1 L1 B1) (h : MH T S C L B hg kk st) (ha : MT T S C L B 46 a) : r = (pushA st a).1 ∧ MH T1 S1 C1 L1 B1 h1 kk (pushA st a).2 := by
  have e := h.1
  unfold pushA
  rcases hp with ⟨a1, a2, a3, rfl, rfl, rfl, rfl, rfl⟩ | ⟨a1, a2, a3, a4, a5⟩
  · rw [if_pos (by omega), a3]; exact ⟨a1, h⟩
  · rw [if_neg (by omega), a3]
    refine ⟨a1, ?_⟩
    have := MH_put h (a4 a ha) a5 (by omega) a2
    rw [Int.sub_zero, Int.sub_zero] at this
    rw [Int.sub_zero]
    exact this
theorem put_n {r hg n h1 kk : Int} {T S C L B T1 S1 C1 L1 B1 : Int → Int} {st : AS} {a : Th} (hp : putR r hg n h1 T S C L B T1 S1 C1 L1 B1) (h : MH T S C L B hg kk st) (ha : MT T S C L B 46 a) (hn : 1 ≤ n ∧ n ≤ hg) : r = 0 ∧ MH T1 S1 C1 L1 B1 h1 kk (mkA st.inp st.il (upT st.stk (st.h - n) a) (st.h - n + 1) st.reg st.k st.tx st.tl st.tn st.pg st.pl) := by
  have e := h.1
  rcases hp with ⟨a1, a2, a3, rfl, rfl, rfl, rfl, rfl⟩ | ⟨a1, a2, a3, a4, a5⟩
  · omega
  · rw [a3]
    exact ⟨a1, MH_put h (a4 a ha) a5 (by omega) a2⟩
theorem MT_r {T S C L B : Int → Int} {th j : Int} {a : Th} (h : MT T S C L B th a) (h0 : 0 ≤ j) (hj : j < L th) : 0 ≤ B (60 * th + j) ∧ B (60 * th + j) ≤ 126 := by
  rcases h with ⟨_, _, _, _, h5, _⟩ | ⟨_, _, _, _, _, _, h6, _, h8⟩
  · have := h5.2.1 j h0 hj; omega
  · have := h8 j h0 (by omega); omega
/-! spaces passed over -/
theorem sk_ex {D : Int → Int} {e : Int} : ∀ n : Nat, ∀ p : Int, p ≤ e → (e - p).toNat < n → ∃ q, skR D p e q
  | 0, p, _, h => by omega
  | n + 1, p, hp, h => by
    by_cases q : p < e ∧ D p = 32
    · obtain ⟨r, a1, a2, a3, a4⟩ := sk_ex (D := D) (e := e) n (p + 1) (by omega) (by omega)
      refine ⟨r, by omega, a2, fun j x y => ?_, a4⟩
      rcases (show j = p ∨ p + 1 ≤ j by omega) with z | z
      · rw [z]; exact q.2
      · exact a3 j z y
    · exact ⟨p, by omega, hp, fun j x y => by omega, fun z w => q ⟨z, w⟩⟩
theorem sk_x {D : Int → Int} {p e : Int} (h : p ≤ e) : skR D p e (skP D p e) := by
  obtain ⟨q, hq⟩ := sk_ex (D := D) _ p h (Nat.lt_succ_self _)
  rw [skP_e hq]
  exact hq
theorem sk_c {D E : Int → Int} {p e q : Int} (h : skR D p e q) (he : ∀ j, p ≤ j → j < e → E j = D j) : skR E p e q :=
  ⟨h.1, h.2.1, fun j x y => by rw [he j x (by have := h.2.1; omega)]; exact h.2.2.1 j x y, fun z => by rw [he q h.1 z]; exact h.2.2.2 z⟩
theorem sk_sh {D E : Int → Int} {p en e a q : Int} (h : agr D p en E e) (ha : 0 ≤ a) (hs : skR E a e q) : skR D (p + a) en (p + q) := by
  obtain ⟨a1, a2, a3, a4⟩ := hs
  have he := h.1
  refine ⟨by omega, by omega, fun j x y => ?_, fun z => ?_⟩
  · have := a3 (j - p) (by omega) (by omega)
    rwa [h.2 _ (by omega) (by omega), show p + (j - p) = j by omega] at this
  · have := a4 (by omega)
    rwa [h.2 q (by omega) (by omega)] at this
theorem agr_sh {D E : Int → Int} {p en e q : Int} (h : agr D p en E e) (hq : 0 ≤ q) : agr D (p + q) en (sh E q) (e - q) :=
  ⟨by have := h.1; omega, fun j x y => by show E (q + j) = D (p + q + j); rw [h.2 _ (by omega) (by omega)]; congr 1; omega⟩
theorem sk_bl {D : Int → Int} {p e q : Int} (h : skR D p e q) : (q = e ↔ blnk D p e) := by
  constructor
  · intro z j x y
    exact h.2.2.1 j x (by omega)
  · intro z
    apply Decidable.byContradiction
    intro w
    exact h.2.2.2 (by have := h.2.1; omega) (z q h.1 (by have := h.2.1; omega))
/-! a text begins -/
theorem beg_0 {T S C L B : Int → Int} {th : Int} {st : AS} {a : Th} (h : MT T S C L B th a) (hz : T th = 0 ∨ ∀ j, 0 ≤ j → j < L th → B (60 * th + j) = 32) : begA st a = (0, st) := by
  unfold begA
  refine if_pos ?_
  rcases h with ⟨h0, _⟩ | ⟨h0, h1, h2, h3, h4, h5, h6, h7, h8⟩
  · exact Or.inl (by omega)
  · refine Or.inr fun j x y => ?_
    rw [← (h8 j x y).1]
    exact (hz.resolve_left (by omega)) j x (by omega)
theorem beg_n {T S C L B : Int → Int} {th : Int} {a : Th} (h : MT T S C L B th a) (hT : T th ≠ 0) (hz : ∃ j, 0 ≤ j ∧ j < L th ∧ B (60 * th + j) ≠ 32) : ¬ (a.t ≠ 1 ∨ blnk a.ch 0 a.ln) := by
  rcases h with ⟨_, h0, _⟩ | ⟨h0, h1, h2, h3, h4, h5, h6, h7, h8⟩
  · omega
  · rintro (q | q)
    · exact q h0
    · obtain ⟨j, x, y, z⟩ := hz
      apply z
      rw [(h8 j x (by omega)).1]
      exact q j x (by omega)
theorem beg_9 {st : AS} {a : Th} (h : ¬ (a.t ≠ 1 ∨ blnk a.ch 0 a.ln)) (ht : st.tn = 8) : begA st a = (-9, st) := by
  unfold begA
  rw [if_neg h, if_pos ht]
theorem beg_e {T S C L B F U X X9 : Int → Int} {th tx : Int} {st : AS} {a : Th} (h : MT T S C L B th a) (hn : ¬ (a.t ≠ 1 ∨ blnk a.ch 0 a.ln)) (hX : MX F U X tx st) (ht : tx ≠ 8) (h9 : ∀ j, 0 ≤ j → j < L th → X9 (60 * tx + j) = B (60 * th + j)) (ho : ∀ p, p < 60 * tx ∨ 60 * tx + 60 ≤ p → X9 p = X p) : (begA st a).1 = 0 ∧ MX (up F tx 0) (up U tx (L th)) X9 (tx + 1) (begA st a).2 := by
  obtain ⟨⟨e1, e2, e3⟩, hx⟩ := hX
  unfold begA
  rw [if_neg hn, if_neg (by omega)]
  refine ⟨rfl, ⟨by show tx + 1 = st.tn + 1; omega, by omega, by omega⟩, fun i x y => ?_⟩
  show xtR X9 i (up F tx 0 i) (up U tx (L th) i) (upT st.tx st.tn (sh a.ch (skP a.ch 0 a.ln)) i) (upT st.tl st.tn (a.ln - skP a.ch 0 a.ln) i)
  by_cases q : i = tx
  · subst q
    rw [up_s, up_s, ← e1, upT_s, upT_s]
    rcases h with ⟨h0, _⟩ | ⟨h0, h1, h2, h3, h4, h5, h6, h7, h8⟩
    · exact absurd (Or.inl (by omega)) hn
    · have hs := sk_x (D := a.ch) (p := 0) (e := a.ln) h7.1
      have hc : ∀ j, 0 ≤ j → j < a.ln → sh X9 (60 * i) j = a.ch j := fun j x y => by show X9 (60 * i + j) = a.ch j; rw [h9 j x (by omega)]; exact (h8 j x y).1
      have hlt : skP a.ch 0 a.ln < a.ln := by
        apply Decidable.byContradiction
        intro w
        exact hn (Or.inr ((sk_bl hs).mp (by have := hs.2.1; omega)))
      rw [h6]
      refine ⟨by omega, h7.2, fun j x y => ?_, skP a.ch 0 a.ln, sk_c hs hc, hlt, rfl, fun j x y => ?_⟩
      · rw [show X9 (60 * i + j) = a.ch j from hc j x y]; exact (h8 j x y).2
      · rw [hc _ (by have := hs.1; omega) (by omega)]; rfl
  · rw [up_n q, up_n q, upT_n (by omega), upT_n (by omega)]
    obtain ⟨b1, b2, b3, q2, b4, b5, b6⟩ := hx i x (by omega)
    have hF : ∀ j, j < U i → 0 ≤ j → X9 (60 * i + j) = X (60 * i + j) := fun j z w => ho _ (by omega)
    exact ⟨b1, b2, fun j z w => by rw [hF j w (by omega)]; exact b3 j z w, q2, sk_c b4 (fun j z w => hF j w (by omega)), b5, b6.1, fun j z w => by rw [b6.2 j z w]; exact (hF _ (by have := b6.1; omega) (by have := b4.1; omega)).symm⟩
/-! a token is taken -/
theorem src_x {F U X I : Int → Int} {tx lf s e fm : Int} {st : AS} (hX : MX F U X tx st) (hI : MI I lf st) (hs : srJ tx lf F U s e) (hk : skR (gS tx X I) s e fm) : agr (gS tx X I) fm e (srD st) (srE st) ∧ (∀ j, s ≤ j → j < e → 32 ≤ gS tx X I j ∧ gS tx X I j ≤ 126) := by
  have e1 := hX.1
  unfold srD srE
  unfold srJ at hs
  rcases hs with ⟨a1, a2, a3, a4, a5, a6, a7⟩ | ⟨a1, a2, a3, a4, a5⟩
  · have eG : gS tx X I = sh X (60 * (tx - 1)) := by funext p; unfold gS; rw [if_pos a1]; rfl
    rw [if_pos (by omega), if_pos (by omega), ← e1.1, eG]
    obtain ⟨b1, b2, b3, q, b4, b5, b6⟩ := hX.2 (tx - 1) (by omega) (by omega)
    rw [← a3, ← a4] at b4
    rw [← a3, ← a4] at b3
    rw [← a4] at b6
    rw [eG] at hk
    rw [skR_u hk b4]
    exact ⟨b6, b3⟩
  · have eG : gS tx X I = I := by funext p; unfold gS; rw [if_neg (by omega)]
    rw [if_neg (by omega), if_neg (by omega), eG]
    obtain ⟨b1, b2, q, b4, b6⟩ := hI
    rw [eG, a2, a3] at hk
    rw [a2, a3, skR_u hk b4]
    exact ⟨b6, b2⟩
theorem tak_x {F U X I : Int → Int} {tx tx1 lf s e fm lg : Int} {st : AS} (hX : MX F U X tx st) (hI : MI I lf st) (hs : srJ tx lf F U s e) (hk : skR (gS tx X I) s e fm) (hlg : 0 ≤ lg ∧ fm + lg ≤ e) (ht : 0 < tx) (h : (tx1 = tx ∧ (0 < tx → ¬ blnk (sh X (60 * (tx - 1))) (up F (tx - 1) (fm + lg) (tx - 1)) (U (tx - 1)))) ∨ (0 < tx ∧ tx1 = tx - 1 ∧ blnk (sh X (60 * (tx - 1))) (up F (tx - 1) (fm + lg) (tx - 1)) (U (tx - 1)))) : MX (up F (tx - 1) (fm + lg)) U X tx1 (takA st lg) ∧ MI I lf (takA st lg) := by
  have hA := (src_x hX hI hs hk).1
  have e1 := hX.1
  have hs0 := hs
  unfold srJ at hs
  have eG : gS tx X I = sh X (60 * (tx - 1)) := by funext p; unfold gS; rw [if_pos ht]; rfl
  rw [eG] at hA hk
  have hE := hA.1
  have hkb := hk.2.1
  have hkc := hk.1
  obtain ⟨q, hq⟩ : ∃ q, q = skP (srD st) lg (srE st) := ⟨_, rfl⟩
  have hsk : skR (srD st) lg (srE st) q := by rw [hq]; exact sk_x (by omega)
  have hsk2 := sk_sh hA hlg.1 hsk
  have hbl := sk_bl hsk2
  rw [up_s] at h
  obtain ⟨c1, c2, c3, q0, c4, c5, c6⟩ := hX.2 (tx - 1) (by omega) (by omega)
  have eU : U (tx - 1) = e := by omega
  have eF : F (tx - 1) = s := by omega
  rw [eU] at h
  unfold takA
  rw [if_pos (by omega), ← hq]
  have lower : ∀ i, 0 ≤ i → i < tx - 1 → xtR X i (up F (tx - 1) (fm + lg) i) (U i) (st.tx i) (st.tl i) := fun i x y => by rw [up_n (by omega)]; exact hX.2 i x (by omega)
  rcases h with ⟨h1, h2⟩ | ⟨h1, h2, h3⟩
  · have hne : q ≠ srE st := fun z => h2 ht (hbl.mp (by omega))
    rw [if_neg hne]
    refine ⟨⟨⟨by show tx1 = st.tn; omega, by omega, by omega⟩, fun i x y => ?_⟩, MI_c hI rfl rfl⟩
    show xtR X i (up F (tx - 1) (fm + lg) i) (U i) (upT st.tx (st.tn - 1) (sh (srD st) q) i) (upT st.tl (st.tn - 1) (srE st - q) i)
    by_cases z : i = tx - 1
    · subst z
      rw [up_s, ← e1.1, upT_s, upT_s, eU]
      refine ⟨by omega, by omega, fun j x y => c3 j (by omega) (by omega), fm + q, hsk2, by have := hsk.2.1; omega, ?_⟩
      exact agr_sh hA (by have := hsk.1; omega)
    · rw [upT_n (by omega), upT_n (by omega)]
      exact lower i x (by omega)
  · have he : q = srE st := by have := hbl.mpr h3; omega
    rw [if_pos he]
    exact ⟨⟨⟨by show tx1 = st.tn - 1; omega, by omega, by omega⟩, fun i x y => lower i x (by omega)⟩, MI_c hI rfl rfl⟩
theorem tak_i {F U X I I1 : Int → Int} {tx lf s e fm lg : Int} {st : AS} (hX : MX F U X tx st) (hI : MI I lf st) (hs : srJ tx lf F U s e) (hk : skR (gS tx X I) s e fm) (hlg : 0 ≤ lg ∧ fm + lg ≤ e) (ht : tx ≤ 0) (h : ∀ j, 0 ≤ j → j < lf - (fm + lg) → I1 j = I (fm + lg + j)) : MX F U X tx (takA st lg) ∧ MI I1 (lf - (fm + lg)) (takA st lg) := by
  have hA := (src_x hX hI hs hk).1
  have e1 := hX.1
  unfold srJ at hs
  have eG : gS tx X I = I := by funext p; unfold gS; rw [if_neg (by omega)]
  rw [eG] at hA hk
  have eD : srD st = st.inp := by unfold srD; rw [if_neg (by omega)]
  have eE : srE st = st.il := by unfold srE; rw [if_neg (by omega)]
  rw [eD, eE] at hA
  have hE := hA.1
  have hkb := hk.2.1
  have hkc := hk.1
  obtain ⟨q, hq⟩ : ∃ q, q = skP st.inp lg st.il := ⟨_, rfl⟩
  have hsk : skR st.inp lg st.il q := by rw [hq]; exact sk_x (by omega)
  have hsk2 := sk_sh hA hlg.1 hsk
  have q1 := hsk.1
  have q2 := hsk.2.1
  unfold takA
  rw [if_neg (by omega), ← hq]
  refine ⟨MX_c hX rfl rfl rfl, ⟨by omega, by omega⟩, fun j x y => by rw [h j x y]; exact hI.2.1 _ (by omega) (by omega), q - lg, ⟨by omega, by omega, fun j x y => ?_, fun z => ?_⟩, ?_, fun j x y => ?_⟩
  · rw [h j x (by omega)]; exact hsk2.2.2.1 _ (by omega) (by omega)
  · rw [h _ (by omega) z, show fm + lg + (q - lg) = fm + q by omega]; exact hsk2.2.2.2 (by omega)
  · show st.il - q = _
    omega
  · show st.inp (q + j) = _
    have y : j < st.il - q := y
    rw [h _ (by omega) (by omega), hA.2 _ (by omega) (by omega)]
    congr 1
    omega
def anR (T : Int → Int) (hg n r : Int) : Prop := (r = 1 ∧ ∀ j, 0 ≤ j → j < n → T (25 + hg - j) = 0) ∨ (r = 0 ∧ ∃ j, 0 ≤ j ∧ j < n ∧ T (25 + hg - j) = 1)
/-! spaces alone, so far -/
def spJ (X : Int → Int) (b lo p o : Int) : Prop := (o = 1 ∧ ∀ j, lo ≤ j → j < p → X (b + j) = 32) ∨ (o = 0 ∧ ∃ j, lo ≤ j ∧ j < p ∧ X (b + j) ≠ 32)
theorem sp_0 {X : Int → Int} {b lo : Int} : spJ X b lo lo 1 := Or.inl ⟨rfl, fun j x y => by omega⟩
theorem sp_1 {X : Int → Int} {b lo p : Int} (h : spJ X b lo p 1) (hx : X (b + p) = 32) : spJ X b lo (p + 1) 1 := by
  rcases h with ⟨z1, z2⟩ | ⟨z1, -⟩
  · refine Or.inl ⟨rfl, fun j x y => ?_⟩
    rcases (show j < p ∨ j = p by omega) with w | w
    · exact z2 j x w
    · rw [w]; exact hx
  · omega
theorem sp_2 {X : Int → Int} {b lo p : Int} (hx : X (b + p) ≠ 32) (hp : lo ≤ p) : spJ X b lo (p + 1) 0 := Or.inr ⟨rfl, p, hp, by omega, hx⟩
theorem sp_3 {X : Int → Int} {b lo p : Int} (h : spJ X b lo p 0) : spJ X b lo (p + 1) 0 := by
  rcases h with ⟨z1, -⟩ | ⟨z1, j, x, y, z⟩
  · omega
  · exact Or.inr ⟨rfl, j, x, by omega, z⟩
theorem sp_b {X : Int → Int} {b lo p o : Int} (h : spJ X b lo p o) : o = 0 ∨ o = 1 := by rcases h with ⟨z, -⟩ | ⟨z, -⟩ <;> omega
theorem spx_e {X : Int → Int} {b lo p o u : Int} (h : spJ X b lo p o) (h1 : u ≤ p) (h2 : p ≤ u ∨ p = lo) : (o = 1 ∧ blnk (sh X b) lo u) ∨ (o = 0 ∧ ¬ blnk (sh X b) lo u) := by
  rcases h with ⟨z1, z2⟩ | ⟨z1, j, x, y, z⟩
  · exact Or.inl ⟨z1, fun j x y => z2 j x (by omega)⟩
  · exact Or.inr ⟨z1, fun w => z (w j x (by omega))⟩
/-! the texts that are at their end -/
def enP (F U X : Int → Int) (tx t : Int) : Prop := (t = tx ∧ (0 < tx → ¬ blnk (sh X (60 * (tx - 1))) (F (tx - 1)) (U (tx - 1)))) ∨ (0 < tx ∧ t = tx - 1 ∧ blnk (sh X (60 * (tx - 1))) (F (tx - 1)) (U (tx - 1)))
def enJ (F U X : Int → Int) (tx t on : Int) : Prop := (t = tx ∧ ((0 < tx ∧ on = 1) ∨ (tx ≤ 0 ∧ on = 0))) ∨ (blnk (sh X (60 * (tx - 1))) (F (tx - 1)) (U (tx - 1)) ∧ 0 < tx ∧ t = tx - 1 ∧ ((0 < tx - 1 ∧ on = 1) ∨ (tx - 1 ≤ 0 ∧ on = 0))) ∨ (on = 0 ∧ enP F U X tx t)
theorem en_b {F U X : Int → Int} {tx t on : Int} (h : enJ F U X tx t on) (h0 : 0 ≤ tx) : (on = 0 ∨ on = 1) ∧ (on = 1 → 0 < t) ∧ t ≤ tx ∧ 0 ≤ t := by
  unfold enJ enP at h
  rcases h with ⟨a, b⟩ | ⟨_, a, b, c⟩ | ⟨a, ⟨b, _⟩ | ⟨b, c, _⟩⟩ <;> omega
theorem en_n {F U X : Int → Int} {tx t : Int} (h : enJ F U X tx t 1) (hb : ¬ blnk (sh X (60 * (t - 1))) (F (t - 1)) (U (t - 1))) : enJ F U X tx t 0 := by
  refine Or.inr (Or.inr ⟨rfl, ?_⟩)
  rcases h with ⟨a, b⟩ | ⟨a, b, c, d⟩ | ⟨a, b⟩
  · rw [a] at hb; exact Or.inl ⟨a, fun _ => hb⟩
  · exact Or.inr ⟨b, c, a⟩
  · omega
theorem en_s {F U X : Int → Int} {tx t on : Int} (h : enJ F U X tx t 1) (hb : blnk (sh X (60 * (t - 1))) (F (t - 1)) (U (t - 1))) (hn : ∀ i, 0 ≤ i → i < tx - 1 → ¬ blnk (sh X (60 * i)) (F i) (U i)) (ho : (0 < t - 1 ∧ on = 1) ∨ (t - 1 ≤ 0 ∧ on = 0)) : enJ F U X tx (t - 1) on := by
  rcases h with ⟨a, b⟩ | ⟨a, b, c, d⟩ | ⟨a, b⟩
  · rw [a] at hb ho ⊢
    exact Or.inr (Or.inl ⟨hb, by omega, rfl, ho⟩)
  · exact absurd hb (hn _ (by omega) (by omega))
  · omega
theorem en_e {F U X : Int → Int} {tx t : Int} (h : enJ F U X tx t 0) : enP F U X tx t := by
  rcases h with ⟨a, b⟩ | ⟨a, b, c, d⟩ | ⟨a, b⟩
  · exact Or.inl ⟨a, fun _ => by omega⟩
  · exact Or.inr ⟨b, c, a⟩
  · exact b
theorem MX_nb {F U X : Int → Int} {tx i : Int} {st : AS} (h : MX F U X tx st) (h0 : 0 ≤ i) (hi : i < tx) : ¬ blnk (sh X (60 * i)) (F i) (U i) := by
  obtain ⟨_, _, _, q, b4, b5, _⟩ := h.2 i h0 hi
  intro z
  have := (sk_bl b4).mpr z
  omega
/-! a numeral -/
theorem nuM_0 {D : Int → Int} {n : Int} (h : ∀ j, 1 ≤ j → j < n → D j ≠ 95) : ∀ i : Int, 0 ≤ i → i + 1 ≤ n → nuM D 0 (i + 1).toNat = if D 0 = 95 then 1 else 0 :=
  int_ind (fun _ => by rw [nuM_s (by decide), Int.add_zero]; rfl) fun i hi ih hn => by
    rw [nuM_s (by omega), Int.zero_add, if_neg (h _ (by omega) (by omega)), ih (by omega)]
theorem num_7 {st : AS} {D : Int → Int} {lg r Z s : Int} {T S C L B : Int → Int} (h : mres r Z s T S C L B) (hr : r < 0) (hZ : ab Z = nuN D 0 lg.toNat) (hs : s = nuS D 0 lg.toNat) : r = (numA st D lg).1 ∧ (numA st D lg).2 = st := by
  unfold numA
  rcases h with ⟨h1, h2⟩ | ⟨h1, _⟩
  · rw [hZ, hs] at h2
    rw [if_pos h2]
    exact ⟨h1, rfl⟩
  · omega
theorem num_0 {st : AS} {D : Int → Int} {lg r Z s : Int} {T S C L B : Int → Int} (h : mres r Z s T S C L B) (hr : 0 ≤ r) (hZ : ab Z = nuN D 0 lg.toNat) (hs : s = nuS D 0 lg.toNat) (hv : Z = if nuM D 0 lg.toNat = 1 then -nuN D 0 lg.toNat else nuN D 0 lg.toNat) : MT T S C L B 46 (mkN Z s) ∧ numA st D lg = pushA st (mkN Z s) := by
  unfold numA
  rcases h with ⟨h1, _⟩ | ⟨h1, h2, h3, h4⟩
  · omega
  · rw [hZ] at h2
    rw [if_neg (by omega), ← hv, ← hs]
    exact ⟨h4, rfl⟩
