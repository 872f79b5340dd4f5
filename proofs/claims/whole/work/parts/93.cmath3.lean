/-! what the class prints -/
theorem DL_ex : ∀ n : Nat, ∀ N : Int, 0 ≤ N → N.toNat < n → ∃ k, DL N k
  | 0, N, _, h => by omega
  | n + 1, N, h0, h => by
    by_cases q : N = 0
    · exact ⟨0, DL_0 q⟩
    · obtain ⟨k, a1, a2, a3⟩ := DL_ex n (N / 10) (by omega) (by omega)
      have e := PW_s (b := 10) (i := k) a1
      refine ⟨k + 1, by omega, by omega, fun _ => ?_⟩
      rw [show k + 1 - 1 = k by omega]
      rcases (show k = 0 ∨ 0 < k by omega) with z | z
      · rw [z, PW_0]; omega
      · have b := a3 z
        have e2 := PW_s (b := 10) (i := k - 1) (by omega)
        rw [show k - 1 + 1 = k by omega] at e2
        omega
theorem dln_d {N : Int} (h : 0 ≤ N) : DL N (dln N) := pick_p (DL_ex _ N h (Nat.lt_succ_self _))
theorem cv_pr {t ng sc ln u N : Int} {C F : Int → Int} {a : Th} (hV : VV t ng sc ln C N) (hW : WR F u N) (e1 : a.t = t) (e2 : a.v = sg ng N) (e3 : a.sc = sc) (e4 : a.ln = ln) (e5 : ∀ j, 0 ≤ j → j < a.ln → a.ch j = C j) : ∃ kd pt, DL N kd ∧ ((0 < sc ∧ pt = 1) ∨ (sc = 0 ∧ pt = 0)) ∧ ((t = 1 ∧ thW a = ln) ∨ (t = 0 ∧ N = 0 ∧ thW a = 1) ∨ (t = 0 ∧ N ≠ 0 ∧ thW a = ng + max kd sc + pt)) ∧ (∀ j, 0 ≤ j → j < thW a → thC a j = prT t ng sc C N (max kd sc) j) ∧ (0 ≤ thW a ∧ thW a ≤ 102 ∧ ∀ j, 0 ≤ j → j < thW a → 0 ≤ thC a j ∧ thC a j < 65536) := by
  obtain ⟨x0, x1, x3, x4⟩ := nx_e hV hW e2
  obtain ⟨v1, v2, v3, v4, v5, v6, v7, v8, v9⟩ := hV
  have hd := dln_d x0
  have hk := DL_le hd v9 (by decide)
  have eng : (if a.v < 0 then (1 : Int) else 0) = ng := by split <;> omega
  have eL : thL a = max (dln N) sc := by unfold thL; rw [x1, e3]
  have hC : ∀ j, thC a j = prT t ng sc a.ch N (max (dln N) sc) j := fun j => by unfold thC; rw [eng, x1, eL, e1, e3]
  obtain ⟨pt, hpt, hp2⟩ : ∃ z : Int, (if 0 < a.sc then (1 : Int) else 0) = z ∧ ((0 < sc ∧ z = 1) ∨ (sc = 0 ∧ z = 0)) := ⟨_, rfl, by rw [e3]; split <;> omega⟩
  refine ⟨dln N, pt, hd, hp2, ?_⟩
  have hW9 : (t = 1 ∧ thW a = ln) ∨ (t = 0 ∧ N = 0 ∧ thW a = 1) ∨ (t = 0 ∧ N ≠ 0 ∧ thW a = ng + max (dln N) sc + pt) := by
    unfold thW
    rcases v1 with q | q
    · rw [if_neg (by omega)]
      by_cases z : N = 0
      · rw [if_pos (x4.mpr z)]; exact Or.inr (Or.inl ⟨q, z, rfl⟩)
      · rw [if_neg (fun w => z (x4.mp w)), eL, hpt, eng]
        exact Or.inr (Or.inr ⟨q, z, by omega⟩)
    · rw [if_pos (by omega)]; exact Or.inl ⟨q, e4⟩
  have hT : ∀ j, 0 ≤ j → j < thW a → thC a j = prT t ng sc C N (max (dln N) sc) j := fun j x y => by
    rw [hC]
    unfold prT
    by_cases q : t = 1
    · rw [if_pos q, if_pos q]; exact e5 j x (by omega)
    · rw [if_neg q, if_neg q]
  refine ⟨hW9, hT, by have := hd.1; omega, by omega, fun j x y => ?_⟩
  rw [hT j x y]
  unfold prT
  by_cases q : t = 1
  · rw [if_pos q]; have := v5 j x (by omega); omega
  · rw [if_neg q]
    split
    · omega
    · unfold prQ
      have d1 := dg_b (N := N) (p := max (dln N) sc - 1 - (j - ng))
      have d2 := dg_b (N := N) (p := max (dln N) sc - (j - ng))
      repeat (first | omega | split)
theorem pln_e {t ng sc ln N r kd pt w : Int} (hk : DL N kd) (hp : (0 < sc ∧ pt = 1) ∨ (sc = 0 ∧ pt = 0)) (hw : (t = 1 ∧ w = ln) ∨ (t = 0 ∧ N = 0 ∧ w = 1) ∨ (t = 0 ∧ N ≠ 0 ∧ w = ng + max kd sc + pt)) (h : (t = 1 ∧ r = ln) ∨ (t = 0 ∧ N = 0 ∧ r = 1) ∨ (t = 0 ∧ N ≠ 0 ∧ ∃ k, DL N k ∧ k ≤ 60 ∧ r = max k sc + (if 0 < sc then 1 else 0) + ng)) : r = w := by
  rcases h with ⟨h1, h2⟩ | ⟨h1, h2, h3⟩ | ⟨h1, h2, k, h3, h4, h5⟩
  · omega
  · omega
  · have e := DL_u h3 hk
    rw [h5, e]
    split <;> omega
theorem prN_1 {st : AS} {nl : Int} : prN st nl 1 = prA st (st.stk (st.h - 1)) nl := by
  show prA st (st.stk (st.h - 1 - ((0 : Nat) : Int))) nl = _
  rw [show st.h - 1 - ((0 : Nat) : Int) = st.h - 1 by omega]
theorem p1_x {st : AS} {w : Int} (hw : w = thW (st.stk (st.h - 1))) : (200 < st.pl + w + 1 → p1A st = (-10, st)) ∧ (¬ 200 < st.pl + w + 1 → p1A st = (0, prA st (st.stk (st.h - 1)) 1)) := by
  unfold p1A
  rw [prN_1, hw]
  exact ⟨fun h => if_pos h, fun h => if_neg h⟩
theorem pn_x {st : AS} {w : Int} (hw : w = thW (st.stk (st.h - 1))) : (200 < st.pl + w → pnA st = (-10, st)) ∧ (¬ 200 < st.pl + w → pnA st = (0, (mkA (prA st (st.stk (st.h - 1)) 0).inp (prA st (st.stk (st.h - 1)) 0).il (prA st (st.stk (st.h - 1)) 0).stk (st.h - 1) (prA st (st.stk (st.h - 1)) 0).reg (prA st (st.stk (st.h - 1)) 0).k (prA st (st.stk (st.h - 1)) 0).tx (prA st (st.stk (st.h - 1)) 0).tl (prA st (st.stk (st.h - 1)) 0).tn (prA st (st.stk (st.h - 1)) 0).pg (prA st (st.stk (st.h - 1)) 0).pl))) := by
  unfold pnA
  rw [prN_1, hw]
  have e : (prA st (st.stk (st.h - 1)) 0).pl = st.pl + thW (st.stk (st.h - 1)) := Int.add_zero _
  rw [e]
  exact ⟨fun h => if_pos h, fun h => if_neg h⟩
/-- how wide the stack is, from below -/
noncomputable def swF (st : AS) : Nat → Int
  | 0 => 0
  | n + 1 => swF st n + (thW (st.stk n) + 1)
theorem swF_s {st : AS} {i : Int} (h : 0 ≤ i) : swF st (i + 1).toNat = swF st i.toNat + (thW (st.stk i) + 1) := by
  rw [show (i + 1).toNat = i.toNat + 1 by omega]
  show swF st i.toNat + (thW (st.stk ((i.toNat : Nat) : Int)) + 1) = _
  rw [show ((i.toNat : Nat) : Int) = i by omega]
theorem sw_pr {st : AS} : ∀ j : Int, 0 ≤ j → j ≤ st.h → (prN st 1 j.toNat).pl + swF st (st.h - j).toNat = st.pl + swF st st.h.toNat :=
  int_ind (fun _ => by rw [Int.sub_zero]; rfl) fun j hj ih h => by
    have a := ih (by omega)
    have b := swF_s (st := st) (i := st.h - (j + 1)) (by omega)
    rw [show st.h - (j + 1) + 1 = st.h - j by omega] at b
    rw [prN_s hj]
    have e : (prA (prN st 1 j.toNat) (st.stk (st.h - 1 - j)) 1).pl = (prN st 1 j.toNat).pl + thW (st.stk (st.h - 1 - j)) + 1 := rfl
    rw [e, show st.h - 1 - j = st.h - (j + 1) by omega]
    omega
theorem sw_al {st : AS} (h : 0 ≤ st.h) : (prN st 1 st.h.toNat).pl = st.pl + swF st st.h.toNat := by
  have := sw_pr (st := st) st.h h (Int.le_refl _)
  rw [Int.sub_self] at this
  have e : swF st (Int.toNat 0) = 0 := rfl
  omega
theorem sw_n {si : Int → Nat} {vs : Nat → VS} {hg wk : Int} {st : AS} (h : CH si vs hg wk st) : ∀ n : Nat, (n : Int) ≤ hg → 0 ≤ swF st n
  | 0, _ => Int.le_refl _
  | n + 1, hn => by
    have a := sw_n h n (by omega)
    obtain ⟨N, h1, h2, h3, h4, h5, h6, h7⟩ := h.2.2.2.2.2 n (by omega) (by omega)
    obtain ⟨kd, pt, -, -, -, -, hb⟩ := cv_pr h1 h2 h3 h4 h5 h6 h7
    show 0 ≤ swF st n + (thW (st.stk n) + 1)
    omega
