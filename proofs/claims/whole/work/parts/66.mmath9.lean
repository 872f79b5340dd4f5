/-! things: a number with a scale, or a text -/
abbrev Th : Type := Int × Int × Int × Int × (Int → Int)
def Th.t (a : Th) : Int := a.1
def Th.v (a : Th) : Int := a.2.1
def Th.sc (a : Th) : Int := a.2.2.1
def Th.ln (a : Th) : Int := a.2.2.2.1
def Th.ch (a : Th) : Int → Int := a.2.2.2.2
def mkN (v sc : Int) : Th := ⟨0, v, sc, 0, fun _ => 0⟩
def mkT (ln : Int) (ch : Int → Int) : Th := ⟨1, 0, 0, ln, ch⟩
def ab (x : Int) : Int := max x (-x)
theorem ab_nn {x : Int} : 0 ≤ ab x := by unfold ab; omega
theorem ab_pos {x : Int} (h : 0 ≤ x) : ab x = x := by unfold ab; omega
theorem ab_neg {x : Int} (h : x ≤ 0) : ab x = -x := by unfold ab; omega
theorem ab_z {x : Int} : ab x = 0 ↔ x = 0 := by unfold ab; omega
theorem ab_mul {x y : Int} : ab (x * y) = ab x * ab y := by
  rcases (show 0 ≤ x ∨ x ≤ 0 by omega) with h | h <;> rcases (show 0 ≤ y ∨ y ≤ 0 by omega) with k | k
  · rw [ab_pos h, ab_pos k, ab_pos (Int.mul_nonneg h k)]
  · rw [ab_pos h, ab_neg k, ab_neg (Int.mul_nonpos_of_nonneg_of_nonpos h k), Int.mul_neg]
  · rw [ab_neg h, ab_pos k, ab_neg (Int.mul_nonpos_of_nonpos_of_nonneg h k), Int.neg_mul]
  · rw [ab_neg h, ab_neg k, ab_pos (Int.mul_nonneg_of_nonpos_of_nonpos h k), Int.neg_mul_neg]
def sgs (s a : Int) : Prop := (s = 0 ∧ a = 0) ∨ (s = 1 ∧ 0 < a) ∨ (s = -1 ∧ a < 0)
def sm (s N : Int) : Int := if s = -1 then -N else N
theorem ab_sm {s N : Int} (h : 0 ≤ N) : ab (sm s N) = N := by unfold ab sm; split <;> omega
theorem sm_1 {N : Int} : sm (-1) N = -N := if_pos rfl
theorem sm_0 {s N : Int} (h : s ≠ -1) : sm s N = N := if_neg h
theorem sgs_mul {s y a w : Int} (h1 : sgs s a) (h2 : sgs y w) : sgs (s * y) (a * w) ∧ (-1 ≤ s * y ∧ s * y ≤ 1) ∧ (s * y < 0 ↔ (0 < a ∧ w < 0) ∨ (a < 0 ∧ 0 < w)) := by
  unfold sgs at *
  rcases h1 with ⟨rfl, rfl⟩ | ⟨rfl, h1⟩ | ⟨rfl, h1⟩ <;> rcases h2 with ⟨rfl, rfl⟩ | ⟨rfl, h2⟩ | ⟨rfl, h2⟩
  · exact ⟨by omega, by omega, by omega⟩
  · exact ⟨by omega, by omega, by omega⟩
  · exact ⟨by omega, by omega, by omega⟩
  · exact ⟨by omega, by omega, by omega⟩
  · exact ⟨Or.inr (Or.inl ⟨by omega, Int.mul_pos h1 h2⟩), by omega, by omega⟩
  · exact ⟨Or.inr (Or.inr ⟨by omega, Int.mul_neg_of_pos_of_neg h1 h2⟩), by omega, by omega⟩
  · exact ⟨by omega, by omega, by omega⟩
  · exact ⟨Or.inr (Or.inr ⟨by omega, Int.mul_neg_of_neg_of_pos h1 h2⟩), by omega, by omega⟩
  · exact ⟨Or.inr (Or.inl ⟨by omega, Int.mul_pos_of_neg_of_neg h1 h2⟩), by omega, by omega⟩
def MT (T S C L B : Int → Int) (th : Int) (a : Th) : Prop :=
  (a.t = 0 ∧ T th = 0 ∧ C th = a.sc ∧ (0 ≤ a.sc ∧ a.sc ≤ 40) ∧ TD B L th (ab a.v) ∧ (0 < L th → B (60 * th + (L th - 1)) ≠ 0) ∧ sgs (S th) a.v ∧ a.ln = 0) ∨
  (a.t = 1 ∧ T th = 1 ∧ S th = 0 ∧ C th = 0 ∧ a.v = 0 ∧ a.sc = 0 ∧ L th = a.ln ∧ (0 ≤ a.ln ∧ a.ln ≤ 60) ∧ ∀ j, 0 ≤ j → j < a.ln → B (60 * th + j) = a.ch j ∧ 32 ≤ a.ch j ∧ a.ch j ≤ 126)
theorem MT_n {T S C L B : Int → Int} {th : Int} {a : Th} (h : MT T S C L B th a) (ht : a.t = 0) : C th = a.sc ∧ (0 ≤ a.sc ∧ a.sc ≤ 40) ∧ TD B L th (ab a.v) ∧ sgs (S th) a.v := by
  rcases h with ⟨_, _, h1, h2, h3, _, h5, _⟩ | ⟨h, _⟩
  · exact ⟨h1, h2, h3, h5⟩
  · omega
theorem MT_b {T S C L B : Int → Int} {th : Int} {a : Th} (h : MT T S C L B th a) : (T th = 0 ∨ T th = 1) ∧ T th = a.t ∧ C th = a.sc ∧ (0 ≤ a.sc ∧ a.sc ≤ 40) ∧ (0 ≤ L th ∧ L th ≤ 60) ∧ (-1 ≤ S th ∧ S th ≤ 1) := by
  unfold MT sgs TD at h
  rcases h with ⟨h1, h2, h3, h4, ⟨h5, -, -⟩, -, h7, -⟩ | ⟨h1, h2, h3, h4, h5, h6, h7, h8, -⟩ <;> omega
theorem MT_f {T S C L B T1 S1 C1 L1 B1 : Int → Int} {th ot : Int} {a : Th} (h : MT T S C L B ot a) (hT : T1 th = T ot) (hS : S1 th = S ot) (hC : C1 th = C ot) (hL : L1 th = L ot) (hB : ∀ j, 0 ≤ j → j < 60 → B1 (60 * th + j) = B (60 * ot + j)) : MT T1 S1 C1 L1 B1 th a := by
  rcases h with ⟨h0, h1, h2, h3, ⟨h4, h5, h6⟩, h7, h8, h9⟩ | ⟨h0, h1, h2, h3, h4, h5, h6, h7, h8⟩
  · refine Or.inl ⟨h0, hT.trans h1, hC.trans h2, h3, ⟨by rw [hL]; exact h4, fun j x y => by rw [hL] at y; rw [hB j x (by omega)]; exact h5 j x y, ?_⟩, fun z => ?_, by rw [hS]; exact h8, h9⟩
    · rw [hL, ← h6]
      exact VL_c _ h4.1 (fun j x y => hB j x (by omega))
    · rw [hL] at z ⊢
      rw [hB _ (by omega) (by omega)]
      exact h7 z
  · exact Or.inr ⟨h0, hT.trans h1, hS.trans h2, hC.trans h3, h4, h5, hL.trans h6, h7, fun j x y => by rw [hB j x (by omega)]; exact h8 j x y⟩
def thO (T S C L B T1 S1 C1 L1 B1 : Int → Int) (th : Int) : Prop := (∀ j, j ≠ th → T1 j = T j ∧ S1 j = S j ∧ C1 j = C j ∧ L1 j = L j) ∧ ∀ p, p < 60 * th ∨ 60 * th + 60 ≤ p → B1 p = B p
theorem MT_o {T S C L B T1 S1 C1 L1 B1 : Int → Int} {th j : Int} {a : Th} (ho : thO T S C L B T1 S1 C1 L1 B1 th) (hj : j ≠ th) (h : MT T S C L B j a) : MT T1 S1 C1 L1 B1 j a :=
  MT_f h (ho.1 j hj).1 (ho.1 j hj).2.1 (ho.1 j hj).2.2.1 (ho.1 j hj).2.2.2 (fun t x y => ho.2 _ (by omega))
theorem thO_r {T S C L B : Int → Int} {th : Int} : thO T S C L B T S C L B th := ⟨fun _ _ => ⟨rfl, rfl, rfl, rfl⟩, fun _ _ => rfl⟩
theorem TD_bd {B L : Int → Int} {th M : Int} (h : TD B L th M) : 0 ≤ M ∧ M < PW 10 60 := by
  have g := VL_bd (b := 10) (F := sh B (60 * th)) (by decide) (L th) h.1.1 (fun j x y => by have := h.2.1 j x y; show 0 ≤ B (60 * th + j) ∧ B (60 * th + j) < 10; omega)
  rw [h.2.2] at g
  have := PW_mono (b := 10) (i := L th) (j := 60) (by decide) h.1.1 h.1.2
  omega
def mres (r Z s : Int) (T1 S1 C1 L1 B1 : Int → Int) : Prop := (r = -7 ∧ (PW 10 60 ≤ ab Z ∨ 40 < s)) ∨ (r = 0 ∧ ab Z < PW 10 60 ∧ s ≤ 40 ∧ MT T1 S1 C1 L1 B1 46 (mkN Z s))
theorem make_e {D Z T1 S1 C1 L1 B1 : Int → Int} {i N s pl : Int} (h : MR D Z i N) (hz : Z i ≤ 60) (hp : 0 ≤ pl ∧ pl ≤ 40) (hs : s = 1 ∨ s = -1 ∨ (s = 0 ∧ N = 0)) (hT : T1 46 = 0) (hS : (Z i = 0 ∧ S1 46 = 0) ∨ (Z i ≠ 0 ∧ S1 46 = s)) (hC : C1 46 = pl) (hL : L1 46 = Z i) (hB : ∀ j, 0 ≤ j → j < Z i → B1 (2760 + j) = D (340 * i + j)) : mres 0 (sm s N) pl T1 S1 C1 L1 B1 := by
  have nn := M_nn h
  have dl := M_dl h
  have e0 : ab (sm s N) = N := ab_sm nn
  have hlt : N < PW 10 60 := DL_lt dl hz
  have hz0 := h.1.1
  have nz : Z i = 0 ↔ N = 0 := by
    constructor
    · intro q
      have := dl.2.1
      rw [q, PW_0] at this
      omega
    · intro q
      apply Decidable.byContradiction
      intro w
      have := dl.2.2 (by omega)
      have p := PW_pos (b := 10) (by decide) (Z i - 1)
      omega
  refine Or.inr ⟨rfl, by rw [e0]; exact hlt, hp.2, Or.inl ⟨rfl, hT, hC, hp, ⟨by rw [hL]; omega, fun j x y => ?_, ?_⟩, fun z => ?_, ?_, rfl⟩⟩
  · rw [hL] at y
    rw [show 60 * 46 + j = 2760 + j by omega, hB j x y]
    exact h.1.2.1 j x y
  · show VL 10 (sh B1 (60 * 46)) (L1 46) = ab (sm s N)
    rw [hL, e0, ← h.1.2.2]
    exact VL_c _ hz0.1 (fun j x y => hB j x y)
  · rw [hL] at z ⊢
    rw [show 60 * 46 + (Z i - 1) = 2760 + (Z i - 1) by omega, hB _ (by omega) (by omega)]
    exact h.2 z
  · show sgs (S1 46) (sm s N)
    unfold sgs sm
    split <;> omega
theorem make_7 {D Z T1 S1 C1 L1 B1 : Int → Int} {i N s pl : Int} (h : MR D Z i N) (hz : 60 < Z i ∨ 40 < pl) : mres (-7) (sm s N) pl T1 S1 C1 L1 B1 := by
  refine Or.inl ⟨rfl, ?_⟩
  rw [ab_sm (M_nn h)]
  rcases hz with q | q
  · exact Or.inl (DL_ge (M_dl h) (by decide) q)
  · exact Or.inr q
/-! sums -/
theorem pl_1 {s y a w P Q s1 : Int} (h1 : sgs s a) (h2 : sgs y w) (h : ¬ s * y < 0) (hs : (s = 0 ∧ s1 = y) ∨ (s ≠ 0 ∧ s1 = s)) (hP : 0 < P) (hQ : 0 < Q) : sm s1 (ab a * P + ab w * Q) = a * P + w * Q ∧ (s1 = 1 ∨ s1 = -1 ∨ (s1 = 0 ∧ ab a * P + ab w * Q = 0)) := by
  have h3 := (sgs_mul h1 h2).2.2
  rw [h3] at h
  unfold sgs at h1 h2
  rcases h1 with ⟨a1, a2⟩ | ⟨a1, a2⟩ | ⟨a1, a2⟩ <;> rcases h2 with ⟨b1, b2⟩ | ⟨b1, b2⟩ | ⟨b1, b2⟩ <;> first | omega | skip
  · rw [a2, b2, show s1 = 0 by omega]; exact ⟨by unfold sm ab; simp, Or.inr (Or.inr ⟨rfl, by unfold ab; simp⟩)⟩
  · rw [a2, show s1 = 1 by omega, ab_pos (show 0 ≤ w by omega)]; exact ⟨by unfold sm ab; simp, Or.inl rfl⟩
  · rw [a2, show s1 = -1 by omega, ab_neg (show w ≤ 0 by omega)]; exact ⟨by unfold sm ab; simp; grind, Or.inr (Or.inl rfl)⟩
  · rw [b2, show s1 = 1 by omega, ab_pos (show 0 ≤ a by omega)]; exact ⟨by unfold sm ab; simp, Or.inl rfl⟩
  · rw [show s1 = 1 by omega, ab_pos (show 0 ≤ a by omega), ab_pos (show 0 ≤ w by omega)]; exact ⟨by unfold sm; simp, Or.inl rfl⟩
  · rw [b2, show s1 = -1 by omega, ab_neg (show a ≤ 0 by omega)]; exact ⟨by unfold sm ab; simp; grind, Or.inr (Or.inl rfl)⟩
  · rw [show s1 = -1 by omega, ab_neg (show a ≤ 0 by omega), ab_neg (show w ≤ 0 by omega)]; exact ⟨by unfold sm; rw [if_pos rfl]; grind, Or.inr (Or.inl rfl)⟩
theorem pl_2 {s y a w P Q : Int} (h1 : sgs s a) (h2 : sgs y w) (h : s * y < 0) : sm s (ab a * P - ab w * Q) = a * P + w * Q ∧ sm y (ab w * Q - ab a * P) = a * P + w * Q ∧ (s = 1 ∨ s = -1) ∧ (y = 1 ∨ y = -1) := by
  have h3 := (sgs_mul h1 h2).2.2
  rw [h3] at h
  unfold sgs at h1 h2
  rcases h with ⟨a2, b2⟩ | ⟨a2, b2⟩
  · rw [show s = 1 by omega, show y = -1 by omega, ab_pos (show 0 ≤ a by omega), ab_neg (show w ≤ 0 by omega)]
    exact ⟨by unfold sm; rw [if_neg (by decide)]; grind, by unfold sm; rw [if_pos rfl]; grind, by omega, by omega⟩
  · rw [show s = -1 by omega, show y = 1 by omega, ab_neg (show a ≤ 0 by omega), ab_pos (show 0 ≤ w by omega)]
    exact ⟨by unfold sm; rw [if_pos rfl]; grind, by unfold sm; rw [if_neg (by decide)]; grind, by omega, by omega⟩
/-! a quotient, cut towards 0 -/
def tq (z q : Int) : Int := if z < 0 then -(ab z / q) else ab z / q
theorem tq_e {s z q : Int} (h : sgs s z) : sm s (ab z / q) = tq z q ∧ (s = 1 ∨ s = -1 ∨ (s = 0 ∧ ab z / q = 0)) := by
  unfold sgs at h
  unfold tq
  rcases h with ⟨rfl, rfl⟩ | ⟨rfl, h⟩ | ⟨rfl, h⟩
  · exact ⟨by unfold sm ab; simp, Or.inr (Or.inr ⟨rfl, by unfold ab; simp⟩)⟩
  · rw [if_neg (by omega)]; exact ⟨sm_0 (by decide), Or.inl rfl⟩
  · rw [if_pos h]; exact ⟨sm_1, Or.inr (Or.inl rfl)⟩
theorem q_can {X Y g : Int} (hg : 0 < g) : X * g / (Y * g) = X / Y := Int.mul_ediv_mul_of_pos_left X Y hg
def szn (z n : Int) : Int := if z < 0 then -n else n
theorem sm_sz {s z n : Int} (h : sgs s z) : sm s n = szn z n := by
  unfold sgs at h
  unfold sm szn
  split <;> split <;> omega
theorem sgs_ab {s a : Int} (h : sgs s a) : s * ab a = a := by
  unfold sgs at h
  rcases h with ⟨rfl, rfl⟩ | ⟨rfl, h⟩ | ⟨rfl, h⟩
  · rfl
  · rw [ab_pos (by omega)]; omega
  · rw [ab_neg (by omega)]; omega
theorem T_dig {B L : Int → Int} {th M d : Int} (h : TD B L th M) (h0 : 0 ≤ d) (hd : d < L th) : M / PW 10 d = M / PW 10 (d + 1) * 10 + B (60 * th + d) := by
  have hb : ∀ j, 0 ≤ j → j < L th → 0 ≤ sh B (60 * th) j ∧ sh B (60 * th) j < 10 := fun j x y => by have := h.2.1 j x y; show 0 ≤ B (60 * th + j) ∧ B (60 * th + j) < 10; omega
  rw [← VL_div (by decide) hb h.2.2 h0 (by omega), ← VL_div (by decide) hb h.2.2 (show 0 ≤ d + 1 by omega) (by omega), show L th - d = L th - (d + 1) + 1 by omega, VL_step (by omega)]
  have e : (fun t => sh B (60 * th) (d + (1 + t))) = fun t => sh B (60 * th) (d + 1 + t) := by funext t; congr 1; omega
  rw [e, show sh B (60 * th) (d + 0) = B (60 * th + d) by unfold sh; congr 1; omega]
  omega
theorem T_lt {B L : Int → Int} {th M : Int} (h : TD B L th M) : M < PW 10 (L th) := by
  have g := VL_bd (b := 10) (F := sh B (60 * th)) (by decide) (L th) h.1.1 (fun j x y => by have := h.2.1 j x y; show 0 ≤ B (60 * th + j) ∧ B (60 * th + j) < 10; omega)
  rw [h.2.2] at g
  exact g.2
theorem T_dl {T S C L B : Int → Int} {th : Int} {a : Th} (h : MT T S C L B th a) (ht : a.t = 0) : DL (ab a.v) (L th) := by
  rcases h with ⟨_, _, _, _, h5, h6, _, _⟩ | ⟨h, _⟩
  · refine ⟨h5.1.1, T_lt h5, fun q => ?_⟩
    rw [← h5.2.2]
    exact VL_top (by decide) q (fun j x y => by have := h5.2.1 j x y; show 0 ≤ B (60 * th + j) ∧ B (60 * th + j) < 10; omega) (h6 q)
  · omega
/-! dividing -/
theorem qr_1 {a b x y k t : Int} (ht : t = max x (k + y)) (hx : 0 ≤ x) (hy : 0 ≤ y) (hk : 0 ≤ k) : a * PW 10 (y + k) = a * PW 10 (t - x) * PW 10 (x + y + k - t) ∧ b * PW 10 x = b * PW 10 (t - (k + y)) * PW 10 (x + y + k - t) := by
  rw [Int.mul_assoc, Int.mul_assoc, ← PW_add (by omega) (by omega), ← PW_add (by omega) (by omega)]
  rw [show t - x + (x + y + k - t) = y + k by omega, show t - (k + y) + (x + y + k - t) = x by omega]
  exact ⟨rfl, rfl⟩
theorem qr_2 {a b x y k t : Int} (ht : t = max x (k + y)) (hx : 0 ≤ x) (hy : 0 ≤ y) (hk : 0 ≤ k) : a * PW 10 (y + k) / (b * PW 10 x) = a * PW 10 (t - x) / (b * PW 10 (t - (k + y))) := by
  obtain ⟨e1, e2⟩ := qr_1 (a := a) (b := b) ht hx hy hk
  rw [e1, e2, q_can (PW_pos (by decide) _)]
theorem rm_1 {X b p : Int} (hX : 0 ≤ X) (hb : 0 < b) (hp : 1 ≤ p) : X / (b * p) * b ≤ X ∧ 0 ≤ X / (b * p) * b ∧ X / (b * p) * b * p = X - X % (b * p) ∧ X - X % (b * p) ≤ X ∧ 0 ≤ X / (b * p) ∧ X / (b * p) ≤ X := by
  have hY : 0 < b * p := Int.mul_pos hb (by omega)
  have h1 := Int.mul_ediv_add_emod X (b * p)
  have h2 := Int.emod_nonneg X (show b * p ≠ 0 by omega)
  have h3 : 0 ≤ X / (b * p) := Int.ediv_nonneg hX (by omega)
  have h4 : 0 ≤ X / (b * p) * b := Int.mul_nonneg h3 (by omega)
  have h5 := Int.mul_le_mul_of_nonneg_left hp h4
  have h6 : X / (b * p) * b * p = b * p * (X / (b * p)) := by grind
  have h7 : X / (b * p) ≤ X := Int.ediv_le_self _ hX
  exact ⟨by omega, h4, by omega, by omega, h3, h7⟩
theorem PW_zz {n : Int} (h : 1 ≤ n) : PW 0 n = 0 := by
  have e := PW_s (b := 0) (i := n - 1) (by omega)
  rw [show n - 1 + 1 = n by omega] at e
  omega
theorem m_pos {a p : Int} (h : 0 < a) : 0 < a * PW 10 p := Int.mul_pos h (PW_pos (by decide) _)
theorem sp_e {s a n s6 N : Int} (h : sgs s a) (hn : 0 ≤ n) (h6 : (n % 2 = 0 ∧ s6 = 1) ∨ (n % 2 ≠ 0 ∧ s6 = s)) (hN : n % 2 ≠ 0 → a = 0 → N = 0) : sm s6 N = szn (if n % 2 = 1 then a else 1) N ∧ (s6 = 1 ∨ s6 = -1 ∨ (s6 = 0 ∧ N = 0)) := by
  rcases h6 with ⟨h1, h2⟩ | ⟨h1, h2⟩
  · rw [if_neg (by omega), h2]
    exact ⟨rfl, Or.inl rfl⟩
  · rw [if_pos (by omega), h2, sm_sz h]
    refine ⟨rfl, ?_⟩
    unfold sgs at h
    rcases h with ⟨a1, a2⟩ | ⟨a1, a2⟩ | ⟨a1, a2⟩
    · exact Or.inr (Or.inr ⟨a1, hN h1 a2⟩)
    · exact Or.inl a1
    · exact Or.inr (Or.inl a1)
/-! comparing -/
theorem or_1 {s y a b P Q : Int} (h1 : sgs s a) (h2 : sgs y b) (hP : 0 < P) (hQ : 0 < Q) (h : s < y) : a * P < b * Q := by
  have a1 : 0 < a → 0 < a * P := fun q => Int.mul_pos q hP
  have a2 : a < 0 → a * P < 0 := fun q => Int.mul_neg_of_neg_of_pos q hP
  have b1 : 0 < b → 0 < b * Q := fun q => Int.mul_pos q hQ
  have b2 : b < 0 → b * Q < 0 := fun q => Int.mul_neg_of_neg_of_pos q hQ
  have a0 : a = 0 → a * P = 0 := fun q => by rw [q, Int.zero_mul]
  have b0 : b = 0 → b * Q = 0 := fun q => by rw [q, Int.zero_mul]
  unfold sgs at h1 h2
  rcases h1 with ⟨_, h1⟩ | ⟨_, h1⟩ | ⟨_, h1⟩ <;> rcases h2 with ⟨_, h2⟩ | ⟨_, h2⟩ | ⟨_, h2⟩ <;> first | omega | (have := a0 h1; have := b1 h2; omega) | (have := a2 h1; have := b0 h2; omega) | (have := a2 h1; have := b1 h2; omega)
theorem or_2 {s a b P Q c : Int} (h1 : sgs s a) (h2 : sgs s b) (h : ((ab a * P < ab b * Q ∧ c < 0) ∨ (ab a * P = ab b * Q ∧ c = 0) ∨ (ab b * Q < ab a * P ∧ 0 < c)) ∧ -400 ≤ c ∧ c ≤ 400) : ((a * P < b * Q ∧ s * c < 0) ∨ (a * P = b * Q ∧ s * c = 0) ∨ (b * Q < a * P ∧ 0 < s * c)) ∧ -400 ≤ s * c ∧ s * c ≤ 400 := by
  unfold sgs at h1 h2
  rcases h1 with ⟨e, h1⟩ | ⟨e, h1⟩ | ⟨e, h1⟩
  · rw [e, h1, show b = 0 by omega]; omega
  · rw [ab_pos (show 0 ≤ a by omega), ab_pos (show 0 ≤ b by omega)] at h
    rw [e]; omega
  · rw [ab_neg (show a ≤ 0 by omega), ab_neg (show b ≤ 0 by omega), Int.neg_mul, Int.neg_mul] at h
    rw [e]; omega
def putR (r hg n h1 : Int) (T S C L B T1 S1 C1 L1 B1 : Int → Int) : Prop := (r = -8 ∧ hg - n = 20 ∧ h1 = hg ∧ T1 = T ∧ S1 = S ∧ C1 = C ∧ L1 = L ∧ B1 = B) ∨ (r = 0 ∧ hg - n < 20 ∧ h1 = hg - n + 1 ∧ (∀ a, MT T S C L B 46 a → MT T1 S1 C1 L1 B1 (25 + (hg - n + 1)) a) ∧ thO T S C L B T1 S1 C1 L1 B1 (25 + (hg - n + 1)))
