/-! reckoning -/
abbrev wAr (dA : Nat → ClassId) (ar xR la ra sa qa : Nat) (w_ : va_W) : va_W := (ar, .inr (0, [.ref xR, .ref la, .ref ra, .ref sa, .ref qa])) :: w_
def sg (ng N : Int) : Int := if ng = 1 then -N else N
theorem sg_1 {N : Int} : sg 1 N = -N := rfl
theorem sg_0 {ng N : Int} (h : ng ≠ 1) : sg ng N = N := if_neg h
theorem sg_abs {ng N : Int} (h : 0 ≤ N) : max (sg ng N) (-sg ng N) = N := by
  unfold sg
  split <;> omega
theorem sg_neg {ng N : Int} (h : 0 ≤ N) (hb : ng = 0 ∨ ng = 1) : sg ng N < 0 ↔ ng = 1 ∧ N ≠ 0 := by
  unfold sg
  split <;> omega
def RES (r Z s t1 ng1 sc1 ln1 : Int) (F1 : Int → Int) (u1 : Int) : Prop := (r = -7 ∧ PW 10 60 ≤ max Z (-Z)) ∨ (r = 0 ∧ max Z (-Z) < PW 10 60 ∧ t1 = 0 ∧ ln1 = 0 ∧ sc1 = s ∧ WR F1 u1 (max Z (-Z)) ∧ (ng1 = 0 ∨ ng1 = 1) ∧ (ng1 = 1 ↔ Z < 0))
theorem RES_0 {bz M s ng1 : Int} {F1 : Int → Int} {u1 : Int} (hM : 0 ≤ M) (hb : bz = 0 ∨ bz = 1) (h : M < PW 10 60) (hW : WR F1 u1 M) (hn : ng1 = 0 ∨ ng1 = 1) (hg : ng1 = 1 ↔ bz = 1 ∧ M ≠ 0) : RES 0 (sg bz M) s 0 ng1 s 0 F1 u1 := by
  refine Or.inr ⟨rfl, ?_⟩
  rw [sg_abs hM, sg_neg hM hb]
  exact ⟨h, rfl, rfl, rfl, hW, hn, hg⟩
theorem RES_7 {bz M s t1 ng1 sc1 ln1 : Int} {F1 : Int → Int} {u1 : Int} (hM : 0 ≤ M) (h : PW 10 60 ≤ M) : RES (-7) (sg bz M) s t1 ng1 sc1 ln1 F1 u1 := by
  refine Or.inl ⟨rfl, ?_⟩
  rw [sg_abs hM]
  exact h
theorem w60 {N d : Int} (h0 : 0 ≤ N) (hN : N < PW 10 60) (hd : 0 ≤ d) (hd2 : d ≤ 200) : N * PW 10 d < PW 10 (60 + d) ∧ N * PW 10 d < PW 1000000000 31 ∧ N * PW 10 d < PW 1000000000 30 ∧ 0 ≤ N * PW 10 d := by
  have h1 := Int.mul_lt_mul_of_pos_right hN (PW_pos (b := 10) (by decide) d)
  rw [← PW_add (by decide) hd] at h1
  have h2 := PW_mono (b := 10) (i := 60 + d) (j := 270) (by decide) (by omega) (by omega)
  have h3 := PW_lt (b := 10) (i := 270) (j := 279) (by decide) (by decide) (by decide)
  have e1 : PW 1000000000 31 = PW 10 279 := PW_B (by decide)
  have e2 : PW 1000000000 30 = PW 10 270 := PW_B (by decide)
  have h4 := PW_pos (b := 10) (by decide) d
  exact ⟨h1, by omega, by omega, Int.mul_nonneg h0 (by omega)⟩
theorem u60 {F : Int → Int} {u N : Int} (h : WR F u N) (hN : N < PW 10 60) : u ≤ 7 := by
  refine WR_le h (by decide) ?_
  have e1 : PW 1000000000 7 = PW 10 63 := PW_B (by decide)
  have h3 := PW_lt (b := 10) (i := 60) (j := 63) (by decide) (by decide) (by decide)
  omega
theorem u200 {F : Int → Int} {u N : Int} (h : WR F u N) (hN : N < PW 10 200) : u ≤ 23 := by
  refine WR_le h (by decide) ?_
  have e1 : PW 1000000000 23 = PW 10 207 := PW_B (by decide)
  have h3 := PW_lt (b := 10) (i := 200) (j := 207) (by decide) (by decide) (by decide)
  omega
theorem WR_dl {F : Int → Int} {u N k : Int} (h : WR F u N) (hk : DL N k) : 0 ≤ k ∧ k ≤ 288 := by
  refine ⟨hk.1, DL_le hk ?_ (by decide)⟩
  have b := (WR_bd h).2
  have h2 := PW_mono (b := 1000000000) (i := u) (j := 32) (by decide) h.1.1 h.1.2
  have e1 : PW 1000000000 32 = PW 10 288 := PW_B (by decide)
  omega
theorem DL_ge {N k j : Int} (h : DL N k) (hj : 0 ≤ j) (hk : j < k) : PW 10 j ≤ N := by
  have h1 := h.2.2 (by omega)
  have h2 := PW_mono (b := 10) (i := j) (j := k - 1) (by decide) hj (by omega)
  omega
/-! sums -/
theorem sum_same {a b x y : Int} (h : a = b) : sg a x + sg b y = sg a (x + y) := by
  subst h
  unfold sg
  split <;> omega
theorem sum_diff {a b x y : Int} (ha : a = 0 ∨ a = 1) (hb : b = 0 ∨ b = 1) (h : a ≠ b) : sg a x + sg b y = sg a (x - y) ∧ sg a x + sg b y = sg b (y - x) := by
  unfold sg
  split <;> split <;> omega
/-! powers -/
theorem pow_mono {M i j : Int} (hM : 0 ≤ M) (hi : 0 ≤ i) (hij : i ≤ j) (h : PW 10 200 ≤ PW M i) : PW 10 200 ≤ PW M j := by
  by_cases q : 1 ≤ M
  · have := PW_mono (b := M) (i := i) (j := j) q hi hij
    omega
  · have h0 : M = 0 := by omega
    subst h0
    rcases (show i = 0 ∨ 0 < i by omega) with z | z
    · subst z
      rw [PW_0] at h
      have := PW_lt (b := 10) (i := 0) (j := 200) (by decide) (by decide) (by decide)
      rw [PW_0] at this
      omega
    · have e := PW_s (b := 0) (i := i - 1) (by omega)
      rw [show i - 1 + 1 = i by omega] at e
      have := PW_pos (b := 10) (by decide) 200
      omega
theorem PW_nn {M : Int} (hM : 0 ≤ M) : ∀ i : Int, 0 ≤ i → 0 ≤ PW M i :=
  int_ind (by rw [PW_0]; omega) fun i hi ih => by
    rw [PW_s hi]
    exact Int.mul_nonneg ih hM
/-! roots -/
def isq (r X : Int) : Prop := 0 ≤ r ∧ r * r ≤ X ∧ X < (r + 1) * (r + 1)
theorem isq_ex : ∀ n : Nat, ∃ r, isq r n
  | 0 => ⟨0, by unfold isq; omega⟩
  | n + 1 => by
    obtain ⟨r, h0, h1, h2⟩ := isq_ex n
    by_cases q : ((n : Int) + 1) < (r + 1) * (r + 1)
    · exact ⟨r, h0, by omega, by omega⟩
    · refine ⟨r + 1, by omega, by omega, ?_⟩
      have e : (r + 1 + 1) * (r + 1 + 1) = (r + 1) * (r + 1) + 2 * r + 3 := by grind
      omega
theorem isq_of {X : Int} (h : 0 ≤ X) : ∃ r, isq r X := by
  obtain ⟨n, rfl⟩ := Int.eq_ofNat_of_zero_le h
  exact isq_ex n
theorem isq_u {r s X : Int} (h1 : isq r X) (h2 : isq s X) : r = s := by
  obtain ⟨a1, a2, a3⟩ := h1
  obtain ⟨b1, b2, b3⟩ := h2
  apply Decidable.byContradiction
  intro q
  rcases (show r + 1 ≤ s ∨ s + 1 ≤ r by omega) with h | h
  · have := Int.mul_le_mul h h (by omega) (by omega)
    omega
  · have := Int.mul_le_mul h h (by omega) (by omega)
    omega
theorem nw_1 {r X g : Int} (h : isq r X) (hg : r < g) : X / g ≤ r := by
  have h1 := Int.mul_le_mul_of_nonneg_left (show r + 1 ≤ g by omega) (show 0 ≤ r + 1 by have := h.1; omega)
  have : X / g < r + 1 := Int.ediv_lt_of_lt_mul (by have := h.1; omega) (by have := h.2.2; omega)
  omega
theorem nw_2 {r X g : Int} (h : isq r X) (hg : 0 < g) : r ≤ (X / g + g) / 2 := by
  have h1 : 2 * r - g ≤ X / g := by
    rw [Int.le_ediv_iff_mul_le hg]
    have h2 : 0 ≤ (r - g) * (r - g) := by
      rcases (show 0 ≤ r - g ∨ 0 ≤ g - r by omega) with z | z
      · exact Int.mul_nonneg z z
      · have := Int.mul_nonneg z z
        rwa [show (g - r) * (g - r) = (r - g) * (r - g) by grind] at this
    have h3 : (2 * r - g) * g = r * r - (r - g) * (r - g) := by grind
    have := h.2.1
    omega
  omega
def nwJ (r0 g fl st : Int) : Prop := r0 ≤ g ∧ (fl = 0 ∨ fl = 1) ∧ (fl = 0 → g = r0) ∧ (fl = 1 → g - r0 < PW 2 (1000 - st)) ∧ (fl = 1 → 0 < g) ∧ g ≤ PW 10 71
theorem nw_s {r0 X g st g2 : Int} (hq : isq r0 X) (hJ : nwJ r0 g 1 st) (h0 : 0 ≤ st ∧ st < 1000) (he : g2 = (X / g + g) / 2) (hX : 0 < X) : (g2 < g → nwJ r0 g2 1 (st + 1)) ∧ (g ≤ g2 → nwJ r0 g 0 (st + 1)) := by
  obtain ⟨a1, a2, a3, a4, a5, a6⟩ := hJ
  have a4 := a4 rfl
  have a5 := a5 rfl
  have h2 := nw_2 hq a5
  have e := PW_s (b := 2) (i := 1000 - (st + 1)) (by omega)
  rw [show 1000 - (st + 1) + 1 = 1000 - st by omega] at e
  constructor
  · intro h
    have hlt : r0 < g := by omega
    have h1 := nw_1 hq hlt
    refine ⟨by omega, Or.inr rfl, fun z => by omega, fun _ => by omega, fun _ => ?_, by omega⟩
    have h3 : 0 < r0 := by
      apply Decidable.byContradiction
      intro z
      have h4 := hq.2.2
      rw [show r0 = 0 by have := hq.1; omega] at h4
      omega
    omega
  · intro h
    refine ⟨a1, Or.inl rfl, fun _ => ?_, fun z => by omega, fun z => by omega, a6⟩
    apply Decidable.byContradiction
    intro z
    have h1 := nw_1 hq (show r0 < g by omega)
    omega
theorem nw_e {r0 g fl st : Int} (hJ : nwJ r0 g fl st) (h : st = 1000 ∨ fl = 0) : g = r0 := by
  obtain ⟨a1, a2, a3, a4, a5, a6⟩ := hJ
  rcases a2 with h1 | h1
  · exact a3 h1
  · rcases h with h2 | h2
    · have := a4 h1
      rw [h2, show (1000 : Int) - 1000 = 0 by omega, PW_0] at this
      omega
    · omega
theorem nw_0 {r0 X k : Int} (hq : isq r0 X) (hk : DL X k) (hkb : k ≤ 140) (hX : X ≠ 0) : nwJ r0 (PW 10 ((k + 1) / 2)) 1 0 := by
  have hk0 := hk.1
  have e1 : PW 10 ((k + 1) / 2) * PW 10 ((k + 1) / 2) = PW 10 ((k + 1) / 2 + (k + 1) / 2) := (PW_add (by omega) (by omega)).symm
  have e2 := PW_mono (b := 10) (i := k) (j := (k + 1) / 2 + (k + 1) / 2) (by decide) hk0 (by omega)
  have e3 := PW_mono (b := 10) (i := (k + 1) / 2) (j := 71) (by decide) (by omega) (by omega)
  have hp := PW_pos (b := 10) (by decide) ((k + 1) / 2)
  have hlt : r0 < PW 10 ((k + 1) / 2) := by
    apply Decidable.byContradiction
    intro z
    have := Int.mul_le_mul (show PW 10 ((k + 1) / 2) ≤ r0 by omega) (show PW 10 ((k + 1) / 2) ≤ r0 by omega) (by omega) hq.1
    have h1 := hq.2.1
    have h2 := hk.2.1
    omega
  have e5 : PW 10 71 < PW 2 (1000 - 0) := by decide +kernel
  have := hq.1
  exact ⟨by omega, Or.inr rfl, fun z => by omega, fun _ => by omega, fun _ => by omega, e3⟩
