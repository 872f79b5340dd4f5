/-! what the reference prints of a thing -/
theorem dg_in {B L : Int → Int} {th M d : Int} (h : TD B L th M) (h0 : 0 ≤ d) (hd : d < L th) : dg M d = 48 + B (60 * th + d) := by
  have e := T_dig h h0 hd
  have b := h.2.1 d h0 hd
  unfold dg
  omega
theorem dg_out {B L : Int → Int} {th M d : Int} (h : TD B L th M) (hd : L th ≤ d) : dg M d = 48 := by
  have a := T_lt h
  have b := PW_mono (b := 10) (i := L th) (j := d) (by decide) h.1.1 hd
  unfold dg
  rw [Int.ediv_eq_zero_of_lt (TD_bd h).1 (by omega)]
  rfl
def pkJ (P : Int → Int) (pl ng sc N L : Int) (P9 : Int → Int) (p9 q : Int) : Prop := (-1 ≤ q ∧ q ≤ sc - 1) ∧ p9 = pl + (ng + (L - 1 - q) + (if 0 < sc then 1 else 0)) ∧ (∀ j, j < pl → P9 j = P j) ∧ ∀ j, 0 ≤ j → j < p9 - pl → P9 (pl + j) = prQ ng sc N L j
theorem pk_0 {P P9 : Int → Int} {pl ng sc N L p9 q : Int} (hJ : pdJ P pl ng sc N L P9 p9 q) (hs : sc = 0) (hq : q = -1) : pkJ P pl ng sc N L P9 p9 q := by
  obtain ⟨a1, a2, a3, a4, a5⟩ := hJ
  exact ⟨by omega, by rw [if_neg (by omega)]; omega, a4, a5⟩
theorem pk_1 {P P9 : Int → Int} {pl ng sc N L p9 q : Int} (hJ : pdJ P pl ng sc N L P9 p9 q) (hs : 0 < sc) (hq : q = sc - 1) (hsL : sc ≤ L) (hp : 0 ≤ pl) (hng : 0 ≤ ng) : pkJ P pl ng sc N L (up P9 p9 46) (p9 + 1) q := by
  obtain ⟨b1, b2, b3⟩ := pd_p hJ (by omega) hq hsL hp hng
  exact ⟨by omega, by rw [if_pos hs]; omega, b2, b3⟩
theorem pk_s {P P9 : Int → Int} {pl ng sc N L p9 q v : Int} (hJ : pkJ P pl ng sc N L P9 p9 q) (hq : 0 ≤ q) (hv : v = dg N q) (hsL : sc ≤ L) (hp : 0 ≤ pl) (hng : 0 ≤ ng) : pkJ P pl ng sc N L (up P9 p9 v) (p9 + 1) (q - 1) := by
  obtain ⟨a1, a2, a3, a4⟩ := hJ
  rw [if_pos (by omega)] at a2
  refine ⟨by omega, by rw [if_pos (by omega)]; omega, fun j x => by rw [up_n (by omega)]; exact a3 j x, fun j x y => ?_⟩
  by_cases z : pl + j = p9
  · rw [z, up_s, hv, prQ_2 (q := q) (by omega) (by omega) hq hsL]
  · rw [up_n z]; exact a4 j x (by omega)
theorem pd_0 {P P9 : Int → Int} {pl ng sc N L p9 : Int} (hng : ng = 0 ∨ ng = 1) (h0 : p9 = pl + ng) (h1 : ∀ j, j < pl → P9 j = P j) (h2 : ng = 1 → P9 pl = 45) (hL : 1 ≤ L ∧ 0 ≤ sc ∧ sc ≤ L) : pdJ P pl ng sc N L P9 p9 (L - 1) := by
  refine ⟨by omega, by omega, Or.inl ⟨by omega, by omega⟩, h1, fun j x y => ?_⟩
  rw [prQ_s (by omega), show pl + j = pl by omega]
  exact h2 (by omega)
/-! where the reference reads -/
def gS (tx : Int) (X I : Int → Int) (p : Int) : Int := if 0 < tx then X (60 * (tx - 1) + p) else I p
def srJ (tx lf : Int) (F U : Int → Int) (s e : Int) : Prop := (0 < tx ∧ tx ≤ 8 ∧ s = F (tx - 1) ∧ e = U (tx - 1) ∧ 0 ≤ s ∧ s ≤ e ∧ e ≤ 60) ∨ (tx = 0 ∧ s = 0 ∧ e = lf ∧ 0 ≤ lf ∧ lf ≤ 100)
def lkR (G : Int → Int) (s e tx fm tk tO : Int) : Prop := skR G s e fm ∧ ((fm = e ∧ tk = 0 ∧ tO = e) ∨ (fm < e ∧ fm ≤ tO ∧ tO ≤ e ∧ ∃ c1 r1 l1 u, msR G fm e (G fm) 0 c1 r1 l1 u ∧ ((tk = 1 ∧ u = 1 ∧ (tx = 0 ∨ c1 ≠ 48)) ∨ (tk = 2 ∧ c1 = 48 ∧ tO = fm + l1 ∧ (u = 0 ∨ 0 < tx)) ∨ (tk = 3 ∧ u = 0 ∧ c1 = 91 ∧ tO = fm + l1 ∧ G fm = 91) ∨ (tk = 4 ∧ u = 0 ∧ prs (G fm) ∧ l1 = 2 ∧ tO = fm + 2) ∨ (tk = 5 ∧ u = 0 ∧ c1 = G fm ∧ l1 = 1 ∧ tO = fm + 1 ∧ c1 ≠ 91 ∧ ¬ prs c1 ∧ (c1 < 48 ∨ 57 < c1)))))
theorem lk_t {G : Int → Int} {s e tx fm tk tO : Int} (hk : skR G s e fm) (hlt : fm < e) (hG : G fm = 91) (h : (tk = 3 ∧ txR G fm e (tO - fm)) ∨ (tk = 1 ∧ txN G fm e ∧ tO = e)) : lkR G s e tx fm tk tO := by
  refine ⟨hk, Or.inr ⟨hlt, ?_⟩⟩
  rcases h with ⟨h1, h2⟩ | ⟨h1, h2, h3⟩
  · have b := h2.1
    have c := h2.2.1
    exact ⟨by omega, by omega, 91, 0, tO - fm, 0, Or.inl ⟨hG, hG.symm, rfl, Or.inl ⟨rfl, h2⟩⟩, Or.inr (Or.inr (Or.inl ⟨h1, rfl, rfl, by omega, hG⟩))⟩
  · exact ⟨by omega, by omega, 91, 0, 1, 1, Or.inl ⟨hG, hG.symm, rfl, Or.inr ⟨rfl, rfl, h2⟩⟩, Or.inl ⟨h1, rfl, Or.inr (by decide)⟩⟩
theorem lk_p {G : Int → Int} {s e tx fm tk tO : Int} (hk : skR G s e fm) (hlt : fm < e) (hG : prs (G fm)) (h : (fm + 1 < e ∧ tk = 4 ∧ tO = fm + 2) ∨ (e ≤ fm + 1 ∧ tk = 1 ∧ tO = e)) : lkR G s e tx fm tk tO := by
  refine ⟨hk, Or.inr ⟨hlt, by omega, by omega, ?_⟩⟩
  rcases h with ⟨h1, h2, h3⟩ | ⟨h1, h2, h3⟩
  · by_cases q : 0 ≤ G (fm + 1) - 97 ∧ G (fm + 1) - 97 < 26
    · exact ⟨G fm, G (fm + 1) - 97, 2, 0, Or.inr (Or.inl ⟨hG, Or.inr ⟨rfl, h1, rfl, rfl, Or.inl ⟨q.1, q.2, rfl⟩⟩⟩), Or.inr (Or.inr (Or.inr (Or.inl ⟨h2, rfl, hG, rfl, h3⟩)))⟩
    · exact ⟨0, G (fm + 1) - 97, 2, 0, Or.inr (Or.inl ⟨hG, Or.inr ⟨rfl, h1, rfl, rfl, Or.inr ⟨by omega, rfl⟩⟩⟩), Or.inr (Or.inr (Or.inr (Or.inl ⟨h2, rfl, hG, rfl, h3⟩)))⟩
  · exact ⟨G fm, 0, 1, 1, Or.inr (Or.inl ⟨hG, Or.inl ⟨rfl, h1, rfl, rfl, rfl⟩⟩), Or.inl ⟨h2, rfl, Or.inr (by unfold prs at hG; omega)⟩⟩
theorem lk_n {G : Int → Int} {s e tx fm tk tO q : Int} (hk : skR G s e fm) (hlt : fm < e) (hG : nst (G fm)) (ht : 0 ≤ tx) (hq : nmR G (np G fm) e q) (h : (q = e ∧ (tx = 0 ∨ ¬ hasD G (np G fm) q) ∧ tk = 1 ∧ tO = e) ∨ (hasD G (np G fm) q ∧ (q < e ∨ tx ≠ 0) ∧ tk = 2 ∧ tO = q) ∨ (¬ hasD G (np G fm) q ∧ q < e ∧ tk = 5 ∧ tO = fm + 1)) : lkR G s e tx fm tk tO := by
  have hp : fm ≤ np G fm := by unfold np; split <;> omega
  have h1 := hq.1
  have h2 := hq.2.1
  have hdg : ¬ hasD G (np G fm) q → 48 ≤ G fm → G fm ≤ 57 → False := fun a b c => by
    have e1 : np G fm = fm := by unfold np; rw [if_neg (by omega)]
    have h4 := hq.2.2.2
    rw [e1] at a h4
    rw [e1] at h1
    rcases (show q = fm ∨ fm < q by omega) with z | z
    · rw [z] at h4
      exact h4 hlt (Or.inl ⟨b, c⟩)
    · exact a ⟨fm, by omega, z, b, c⟩
  refine ⟨hk, Or.inr ⟨hlt, by omega, by omega, ?_⟩⟩
  rcases h with ⟨a1, a2, a3, a4⟩ | ⟨a1, a2, a3, a4⟩ | ⟨a1, a2, a3, a4⟩
  · by_cases w : hasD G (np G fm) q
    · exact ⟨48, 0, q - fm, 1, Or.inr (Or.inr (Or.inl ⟨hG, rfl, q, hq, Or.inl ⟨w, rfl, rfl⟩, Or.inl ⟨rfl, a1⟩⟩)), Or.inl ⟨a3, rfl, Or.inl (a2.resolve_right (fun z => z w))⟩⟩
    · refine ⟨G fm, 0, 1, 1, Or.inr (Or.inr (Or.inl ⟨hG, rfl, q, hq, Or.inr ⟨w, rfl, rfl⟩, Or.inl ⟨rfl, a1⟩⟩)), Or.inl ⟨a3, rfl, Or.inr ?_⟩⟩
      intro z
      exact hdg w (by omega) (by omega)
  · rcases (show q < e ∨ q = e by omega) with z | z
    · exact ⟨48, 0, q - fm, 0, Or.inr (Or.inr (Or.inl ⟨hG, rfl, q, hq, Or.inl ⟨a1, rfl, rfl⟩, Or.inr ⟨rfl, z⟩⟩)), Or.inr (Or.inl ⟨a3, rfl, by omega, Or.inl rfl⟩)⟩
    · exact ⟨48, 0, q - fm, 1, Or.inr (Or.inr (Or.inl ⟨hG, rfl, q, hq, Or.inl ⟨a1, rfl, rfl⟩, Or.inl ⟨rfl, z⟩⟩)), Or.inr (Or.inl ⟨a3, rfl, by omega, Or.inr (by omega)⟩)⟩
  · refine ⟨G fm, 0, 1, 0, Or.inr (Or.inr (Or.inl ⟨hG, rfl, q, hq, Or.inr ⟨a1, rfl, rfl⟩, Or.inr ⟨rfl, a2⟩⟩)), Or.inr (Or.inr (Or.inr (Or.inr ⟨a3, rfl, rfl, rfl, a4, ?_, ?_, ?_⟩)))⟩
    · unfold nst at hG; omega
    · unfold nst at hG; unfold prs; omega
    · apply Decidable.byContradiction
      intro z
      exact hdg a1 (by omega) (by omega)
theorem lk_s {G : Int → Int} {s e tx fm tk tO : Int} (hk : skR G s e fm) (hlt : fm < e) (h1 : G fm ≠ 91) (h2 : ¬ prs (G fm)) (h3 : ¬ nst (G fm)) (h4 : tk = 5) (h5 : tO = fm + 1) : lkR G s e tx fm tk tO :=
  ⟨hk, Or.inr ⟨hlt, by omega, by omega, G fm, 0, 1, 0, Or.inr (Or.inr (Or.inr ⟨h1, h2, h3, rfl, rfl, rfl, rfl⟩)), Or.inr (Or.inr (Or.inr (Or.inr ⟨h4, rfl, rfl, rfl, h5, h1, h2, by unfold nst at h3; omega⟩)))⟩⟩
/-! brackets, one by one -/
def ltJ (G : Int → Int) (fm e t op : Int) : Prop := fm + 1 ≤ t ∧ t ≤ e ∧ (0 ≤ op ∧ op ≤ t - fm) ∧ op = brk G fm (t - fm).toNat ∧ ∀ j, 1 ≤ j → j < t - fm → brk G fm j.toNat ≠ 0
theorem ltx_0 {G : Int → Int} {fm e : Int} (h : G fm = 91) (he : fm < e) : ltJ G fm e (fm + 1) 1 := by
  refine ⟨by omega, by omega, by omega, ?_, fun j x y => by omega⟩
  rw [show fm + 1 - fm = 0 + 1 by omega, brk_s (by decide), Int.add_zero, h]
  rfl
theorem ltx_s {G : Int → Int} {fm e t op o2 : Int} (hJ : ltJ G fm e t op) (ht : t < e) (ho : 0 < op) (h2 : o2 = op + brs (G t)) : ltJ G fm e (t + 1) o2 := by
  obtain ⟨a1, a2, a3, a4, a5⟩ := hJ
  have hb : -1 ≤ brs (G t) ∧ brs (G t) ≤ 1 := by unfold brs; split; omega; split <;> omega
  refine ⟨by omega, by omega, by omega, ?_, fun j x y => ?_⟩
  · rw [show t + 1 - fm = t - fm + 1 by omega, brk_s (by omega), ← a4, show fm + (t - fm) = t by omega]
    exact h2
  · rcases (show j < t - fm ∨ j = t - fm by omega) with z | z
    · exact a5 j x z
    · rw [z, ← a4]; omega
theorem ltx_e {G : Int → Int} {fm e t op tk : Int} (hJ : ltJ G fm e t op) (h : e ≤ t ∨ op ≤ 0) (hk : (op = 0 ∧ tk = 3) ∨ (op ≠ 0 ∧ tk = 1)) : (tk = 3 ∧ txR G fm e (t - fm)) ∨ (tk = 1 ∧ txN G fm e ∧ t = e) := by
  obtain ⟨a1, a2, a3, a4, a5⟩ := hJ
  rcases hk with ⟨k1, k2⟩ | ⟨k1, k2⟩
  · exact Or.inl ⟨k2, by omega, by omega, by omega, a5⟩
  · refine Or.inr ⟨k2, fun j x y => ?_, by omega⟩
    rcases (show j < t - fm ∨ j = t - fm by omega) with z | z
    · exact a5 j x z
    · rw [z, ← a4]; omega
theorem th_t {T S C L B : Int → Int} {th : Int} {a : Th} (h : MT T S C L B th a) (hT : T th ≠ 0) : thW a = L th ∧ (0 ≤ L th ∧ L th ≤ 60) ∧ (∀ j, 0 ≤ j → j < L th → thC a j = B (60 * th + j)) ∧ thZ a = L th ∧ a.t = 1 := by
  rcases h with ⟨_, h, _⟩ | ⟨h0, h1, h2, h3, h4, h5, h6, h7, h8⟩
  · omega
  · refine ⟨by unfold thW; rw [if_pos h0, h6], by omega, fun j x y => ?_, by unfold thZ; rw [if_pos h0, h6], h0⟩
    unfold thC prT
    rw [if_pos h0]
    exact (h8 j x (by omega)).1.symm
theorem th_0 {T S C L B : Int → Int} {th : Int} {a : Th} (h : MT T S C L B th a) (hT : T th = 0) (hS : S th = 0) : thW a = 1 ∧ ∀ j, thC a j = 48 := by
  rcases h with ⟨h0, h1, h2, h3, h4, h5, h6, h7⟩ | ⟨_, h, _⟩
  · have e : a.v = 0 := by unfold sgs at h6; omega
    refine ⟨by unfold thW; rw [if_neg (by omega), if_pos e], fun j => ?_⟩
    unfold thC prT
    rw [if_neg (by omega), if_pos (ab_z.mpr e)]
  · omega
theorem th_n {T S C L B : Int → Int} {th : Int} {a : Th} (h : MT T S C L B th a) (hT : T th = 0) (hS : S th ≠ 0) : ∃ ng LL, ((S th = -1 ∧ ng = 1) ∨ (S th = 1 ∧ ng = 0)) ∧ LL = max (L th) (C th) ∧ 1 ≤ LL ∧ thW a = ng + LL + (if 0 < a.sc then 1 else 0) ∧ (∀ j, thC a j = prQ ng a.sc (ab a.v) LL j) ∧ C th = a.sc ∧ (0 ≤ a.sc ∧ a.sc ≤ 40) ∧ TD B L th (ab a.v) ∧ a.t = 0 := by
  have hh := h
  rcases h with ⟨h0, h1, h2, h3, h4, h5, h6, h7⟩ | ⟨_, h, _⟩
  · have hd := dln_e (T_dl hh h0)
    have eL : thL a = max (L th) (C th) := by unfold thL; rw [hd, h2]
    have e0 : a.v ≠ 0 := by unfold sgs at h6; omega
    have e1 : ab a.v ≠ 0 := fun z => e0 (ab_z.mp z)
    refine ⟨if a.v < 0 then 1 else 0, max (L th) (C th), ?_, rfl, ?_, ?_, fun j => ?_, h2, h3, h4, h0⟩
    · unfold sgs at h6
      split <;> omega
    · have := (T_dl hh h0).2.1
      apply Decidable.byContradiction
      intro z
      have hz : L th = 0 := by have := h4.1; omega
      rw [hz, PW_0] at this
      have := ab_nn (x := a.v)
      omega
    · unfold thW
      rw [if_neg (by omega), if_neg e0, eL]
      omega
    · unfold thC prT
      rw [if_neg (by omega), if_neg e1, eL]
  · omega
