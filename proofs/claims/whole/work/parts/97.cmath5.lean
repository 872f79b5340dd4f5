/-! texts begin -/
theorem bl_c {a : Th} {C : Int → Int} {ln : Int} (e4 : a.ln = ln) (e5 : ∀ j, 0 ≤ j → j < a.ln → a.ch j = C j) : blnk a.ch 0 a.ln ↔ blnk C 0 ln := by
  constructor
  · intro h j x y
    rw [← e5 j x (by omega)]
    exact h j x (by omega)
  · intro h j x y
    rw [e5 j x y]
    exact h j x (by omega)
theorem begA_b {st : AS} {a : Th} (h : blnk a.ch 0 a.ln) : begA st a = (0, st) := by
  unfold begA
  exact if_pos (Or.inr h)
theorem begA_n {st : AS} {a : Th} (h : a.t ≠ 1) : begA st a = (0, st) := by
  unfold begA
  exact if_pos (Or.inl h)
theorem beg_C {tp : Nat → TS} {st : AS} {a : Th} {D1 : Int → Int} {ln : Int} (h : CX tp st.tn st) (hn : ¬ (a.t ≠ 1 ∨ blnk a.ch 0 a.ln)) (ht : st.tn ≠ 8) (e4 : a.ln = ln) (hT : TP 60 D1 0 ln) (hD : ∀ j, 0 ≤ j → j < a.ln → D1 j = a.ch j) : (begA st a).1 = 0 ∧ CX (upF tp st.tn.toNat (D1, 0, ln)) (st.tn + 1) (begA st a).2 := by
  subst e4
  have h1 := h.1
  have hs := sk_x (D := a.ch) (p := 0) (e := a.ln) hT.2.1
  have hlt : skP a.ch 0 a.ln < a.ln := by
    apply Decidable.byContradiction
    intro w
    exact hn (Or.inr ((sk_bl hs).mp (by have := hs.2.1; omega)))
  have hs0 := hs.1
  unfold begA
  rw [if_neg hn, if_neg ht]
  refine ⟨rfl, ⟨by show 0 ≤ st.tn + 1; omega, Int.le_refl _, by omega⟩, fun i x y => ?_, fun i x y => ?_⟩
  · have y : i < st.tn + 1 := y
    show txC (upF tp st.tn.toNat (D1, 0, a.ln) i.toNat) (upT st.tx st.tn (sh a.ch (skP a.ch 0 a.ln)) i) (upT st.tl st.tn (a.ln - skP a.ch 0 a.ln) i)
    by_cases q : i = st.tn
    · rw [q, upF_s, upT_s, upT_s]
      exact ⟨hT, skP a.ch 0 a.ln, sk_c hs hD, hlt, rfl, fun j (z : 0 ≤ j) (w : j < a.ln - skP a.ch 0 a.ln) => (hD _ (by omega) (by omega)).symm⟩
    · rw [upF_n (by omega), upT_n q, upT_n q]; exact h.2.1 i x (by omega)
  · have x : st.tn + 1 ≤ i := x
    omega
theorem ord_e {tx ngx scx lnx ty ngy scy lny Nx Ny r : Int} {a b : Th} (h2 : a.v = sg ngx Nx) (h3 : a.sc = scx) (k2 : b.v = sg ngy Ny) (k3 : b.sc = scy) (h : (sg ngx (Nx * PW 10 (max scx scy - scx)) < sg ngy (Ny * PW 10 (max scx scy - scy)) ∧ r = -1) ∨ (sg ngx (Nx * PW 10 (max scx scy - scx)) = sg ngy (Ny * PW 10 (max scx scy - scy)) ∧ r = 0) ∨ (sg ngy (Ny * PW 10 (max scx scy - scy)) < sg ngx (Nx * PW 10 (max scx scy - scx)) ∧ r = 1)) : ((a.v * PW 10 (max a.sc b.sc - a.sc) < b.v * PW 10 (max a.sc b.sc - b.sc) ∧ r < 0) ∨ (a.v * PW 10 (max a.sc b.sc - a.sc) = b.v * PW 10 (max a.sc b.sc - b.sc) ∧ r = 0) ∨ (b.v * PW 10 (max a.sc b.sc - b.sc) < a.v * PW 10 (max a.sc b.sc - a.sc) ∧ 0 < r)) ∧ -400 ≤ r ∧ r ≤ 400 := by
  rw [h2, h3, k2, k3]
  rw [sg_m, sg_m] at h
  omega
/-! numerals and texts are read -/
theorem nu_a {D E : Int → Int} {p en e : Int} (h : agr D p en E e) : ∀ n : Nat, (n : Int) ≤ e → nuN D p n = nuN E 0 n ∧ nuS D p n = nuS E 0 n ∧ nuM D p n = nuM E 0 n ∧ nuP D p n = nuP E 0 n
  | 0, _ => ⟨rfl, rfl, rfl, rfl⟩
  | n + 1, hn => by
    obtain ⟨a1, a2, a3, a4⟩ := nu_a h n (by omega)
    have e1 : E (0 + (n : Int)) = D (p + n) := by rw [Int.zero_add]; exact h.2 n (by omega) (by omega)
    refine ⟨?_, ?_, ?_, ?_⟩
    · have x := nuN_s (D := D) (p := p) (i := n) (by omega)
      have y := nuN_s (D := E) (p := 0) (i := n) (by omega)
      rw [show ((n : Int) + 1).toNat = n + 1 by omega, show (n : Int).toNat = n by omega] at x y
      rw [x, y, e1, a1]
    · have x := nuS_s (D := D) (p := p) (i := n) (by omega)
      have y := nuS_s (D := E) (p := 0) (i := n) (by omega)
      rw [show ((n : Int) + 1).toNat = n + 1 by omega, show (n : Int).toNat = n by omega] at x y
      rw [x, y, e1, a2, a4]
    · have x := nuM_s (D := D) (p := p) (i := n) (by omega)
      have y := nuM_s (D := E) (p := 0) (i := n) (by omega)
      rw [show ((n : Int) + 1).toNat = n + 1 by omega, show (n : Int).toNat = n by omega] at x y
      rw [x, y, e1, a3]
    · have x := nuP_s (D := D) (p := p) (i := n) (by omega)
      have y := nuP_s (D := E) (p := 0) (i := n) (by omega)
      rw [show ((n : Int) + 1).toNat = n + 1 by omega, show (n : Int).toNat = n by omega] at x y
      rw [x, y, e1, a4]
theorem CV_num {ng sc u N M : Int} {C F : Int → Int} (hW : WR F u N) (hN : N < PW 10 60) (hs : 0 ≤ sc ∧ sc ≤ 40) (h1 : ng = 0 ∨ ng = 1) (h2 : ng = 1 ↔ M = 1 ∧ N ≠ 0) : CV (0, ng, sc, 0, u, C, F) (mkN (if M = 1 then -N else N) sc) := by
  have n0 := (WR_bd hW).1
  refine ⟨N, ⟨Or.inl rfl, h1, hs, by show 0 ≤ (0 : Int) ∧ (0 : Int) ≤ 60; decide, fun j x y => ?_, fun _ => rfl, fun z => ?_, fun z => (h2.mp z).2, hN⟩, hW, rfl, ?_, rfl, rfl, fun j x y => ?_⟩
  · have y : j < 0 := y
    omega
  · have z : (0 : Int) = 1 := z
    omega
  · show (if M = 1 then -N else N) = sg ng N
    unfold sg
    split <;> split <;> omega
  · have y : j < 0 := y
    omega
theorem CV_txt {ln u : Int} {C F ch : Int → Int} (hW : WR F u 0) (hl : 0 ≤ ln ∧ ln ≤ 60) (hc : ∀ j, 0 ≤ j → j < ln → 32 ≤ C j ∧ C j ≤ 126) (he : ∀ j, 0 ≤ j → j < ln → ch j = C j) : CV (1, 0, 0, ln, u, C, F) (mkT ln ch) := by
  have p := PW_pos (b := 10) (by decide) 60
  refine ⟨0, ⟨Or.inr rfl, Or.inl rfl, by show 0 ≤ (0 : Int) ∧ (0 : Int) ≤ 40; decide, hl, hc, fun z => ?_, fun _ => ⟨rfl, rfl⟩, fun z => ?_, p⟩, hW, rfl, rfl, rfl, rfl, fun j x y => he j x y⟩
  · have z : (1 : Int) = 0 := z
    omega
  · have z : (0 : Int) = 1 := z
    omega
