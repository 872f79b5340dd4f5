/-! decimal digits of a Whole -/
theorem PW_B {k : Int} (hk : 0 ≤ k) : PW 1000000000 k = PW 10 (9 * k) := by
  revert hk
  refine int_ind (P := fun k => PW 1000000000 k = PW 10 (9 * k)) rfl (fun i hi ih => ?_) k
  show PW 1000000000 (i + 1) = PW 10 (9 * (i + 1))
  rw [PW_s hi, ih, show 9 * (i + 1) = 9 * i + 9 by omega, PW_add (by omega) (by omega), show PW 10 9 = 1000000000 from rfl]
theorem p10_8 {i : Int} (h0 : 0 ≤ i) (h1 : i < 9) : 1 ≤ PW 10 i ∧ PW 10 i ≤ 100000000 := by
  have a1 := PW_pos (b := 10) (by decide) i
  have a2 := PW_mono (b := 10) (i := i) (j := 8) (by decide) h0 (by omega)
  rw [show PW 10 8 = 100000000 from rfl] at a2
  omega
def DL (N k : Int) : Prop := 0 ≤ k ∧ N < PW 10 k ∧ (0 < k → PW 10 (k - 1) ≤ N)
theorem DL_u {N k j : Int} (h1 : DL N k) (h2 : DL N j) : k = j := by
  obtain ⟨a1, a2, a3⟩ := h1
  obtain ⟨b1, b2, b3⟩ := h2
  apply Decidable.byContradiction
  intro q
  rcases (show k < j ∨ j < k by omega) with h | h
  · have c1 := b3 (by omega)
    have c2 := PW_mono (b := 10) (i := k) (j := j - 1) (by decide) a1 (by omega)
    omega
  · have c1 := a3 (by omega)
    have c2 := PW_mono (b := 10) (i := j) (j := k - 1) (by decide) b1 (by omega)
    omega
theorem DL_0 {N : Int} (h : N = 0) : DL N 0 := ⟨by omega, by rw [PW_0]; omega, fun q => by omega⟩
theorem DL_le {N k j : Int} (h : DL N k) (hN : N < PW 10 j) (hj : 0 ≤ j) : k ≤ j := by
  apply Decidable.byContradiction
  intro q
  have c1 := h.2.2 (by omega)
  have c2 := PW_mono (b := 10) (i := j) (j := k - 1) (by decide) hj (by omega)
  omega
theorem DL_lt {N k j : Int} (h : DL N k) (hj : k ≤ j) : N < PW 10 j := by
  have c2 := PW_mono (b := 10) (i := k) (j := j) (by decide) h.1 hj
  have := h.2.1
  omega
theorem size_e {F : Int → Int} {u N i : Int} (hW : WR F u N) (hu : 0 < u) (h0 : 0 ≤ i) (h1 : 0 < i → PW 10 (i - 1) ≤ F (u - 1)) (h2 : F (u - 1) < PW 10 i) : DL N ((u - 1) * 9 + i) := by
  have ht := hW.2.2.1 hu
  have hd := hW.2.1 (u - 1) (by omega) (by omega)
  have hi : 0 < i := by
    apply Decidable.byContradiction
    intro q
    rw [show i = 0 by omega, PW_0] at h2
    omega
  have h1 := h1 hi
  have e1 := VL_s (b := 1000000000) (F := F) (i := u - 1) (by omega)
  rw [show u - 1 + 1 = u by omega, hW.2.2.2] at e1
  have e2 := VL_bd (b := 1000000000) (F := F) (by decide) (u - 1) (by omega) (fun j a b => hW.2.1 j a (by omega))
  have e3 : PW 10 ((u - 1) * 9 + i) = PW 1000000000 (u - 1) * PW 10 i := by rw [PW_B (by omega), ← PW_add (by omega) (by omega), show 9 * (u - 1) + i = (u - 1) * 9 + i by omega]
  have e4 : PW 10 ((u - 1) * 9 + i - 1) = PW 1000000000 (u - 1) * PW 10 (i - 1) := by rw [PW_B (by omega), ← PW_add (by omega) (by omega), show 9 * (u - 1) + (i - 1) = (u - 1) * 9 + i - 1 by omega]
  have hp := PW_pos (b := 1000000000) (by decide) (u - 1)
  refine ⟨by omega, ?_, fun _ => ?_⟩
  · rw [e3]
    have := Int.mul_le_mul_of_nonneg_left (show F (u - 1) + 1 ≤ PW 10 i by omega) (show 0 ≤ PW 1000000000 (u - 1) by omega)
    rw [Int.mul_add, Int.mul_comm _ (F (u - 1))] at this
    omega
  · rw [e4]
    have := Int.mul_le_mul_of_nonneg_left h1 (show 0 ≤ PW 1000000000 (u - 1) by omega)
    rw [Int.mul_comm _ (F (u - 1))] at this
    omega
/-- the groups from i on are the number divided -/
theorem VL_up_div {F : Int → Int} {u N i : Int} (hd : ∀ j, 0 ≤ j → j < u → 0 ≤ F j ∧ F j < 1000000000) (hN : VL 1000000000 F u = N) (h0 : 0 ≤ i) (h1 : i ≤ u) : VL 1000000000 (fun t => F (i + t)) (u - i) = N / PW 1000000000 i := by
  have e1 := VL_split (b := 1000000000) (F := F) h0 (u - i) (by omega)
  rw [show i + (u - i) = u by omega, hN] at e1
  have e2 := VL_bd (b := 1000000000) (F := F) (by decide) i h0 (fun j a b => hd j a (by omega))
  have hp := PW_pos (b := 1000000000) (by decide) i
  rw [e1, Int.add_mul_ediv_left _ _ (by omega), Int.ediv_eq_zero_of_lt e2.1 e2.2]
  omega
theorem digit_in {F : Int → Int} {u N p : Int} (hW : WR F u N) (h0 : 0 ≤ p) (h1 : p / 9 < u) : F (p / 9) / PW 10 (p % 9) % 10 = N / PW 10 p % 10 := by
  have e1 := VL_up_div hW.2.1 hW.2.2.2 (show 0 ≤ p / 9 by omega) (by omega)
  have e2 : PW 10 p = PW 1000000000 (p / 9) * PW 10 (p % 9) := by rw [PW_B (by omega), ← PW_add (by omega) (by omega), show 9 * (p / 9) + p % 9 = p by omega]
  have hp := PW_pos (b := 1000000000) (by decide) (p / 9)
  have hq := PW_pos (b := 10) (by decide) (p % 9)
  rw [e2, ← Int.ediv_ediv_of_nonneg (by omega), ← e1]
  have e3 := VL_split (b := 1000000000) (F := fun t => F (p / 9 + t)) (i := 1) (by omega) (u - p / 9 - 1) (by omega)
  rw [show 1 + (u - p / 9 - 1) = u - p / 9 by omega, VL_one, PW_1] at e3
  rw [e3]
  have e4 : (1000000000 : Int) = PW 10 (p % 9) * (PW 10 (8 - p % 9) * 10) := by
    rw [← PW_s (by omega), ← PW_add (by omega) (by omega), show p % 9 + (8 - p % 9 + 1) = 9 by omega]
    rfl
  rw [e4, Int.mul_assoc, Int.add_mul_ediv_left _ _ (by omega), Int.mul_right_comm, Int.add_mul_emod_self_right]
  simp
theorem digit_out {F : Int → Int} {u N p : Int} (hW : WR F u N) (h0 : 0 ≤ p) (h1 : u ≤ p / 9) : 0 = N / PW 10 p % 10 := by
  have b := WR_bd hW
  have e1 := PW_mono (b := 1000000000) (i := u) (j := p / 9) (by decide) hW.1.1 h1
  rw [PW_B (k := p / 9) (by omega)] at e1
  have e2 := PW_mono (b := 10) (i := 9 * (p / 9)) (j := p) (by decide) (by omega) (by omega)
  rw [Int.ediv_eq_zero_of_lt b.1 (by omega)]
  rfl
/-! comparing -/
theorem WR_cmp_u {F G : Int → Int} {u v N M : Int} (h1 : WR F u N) (h2 : WR G v M) (h : u < v) : N < M := by
  have a := (WR_bd h1).2
  have b := WR_ge h2 (by have := h1.1; omega)
  have c := PW_mono (b := 1000000000) (i := u) (j := v - 1) (by decide) h1.1.1 (by omega)
  omega
theorem VL_hi {b : Int} {F G : Int → Int} {i u : Int} (h0 : 0 ≤ i) (h1 : i ≤ u) (he : ∀ j, i ≤ j → j < u → F j = G j) : VL b F u - VL b F i = VL b G u - VL b G i := by
  have e1 := VL_split (b := b) (F := F) h0 (u - i) (by omega)
  have e2 := VL_split (b := b) (F := G) h0 (u - i) (by omega)
  rw [show i + (u - i) = u by omega] at e1 e2
  have e3 := VL_c (b := b) (F := fun t => F (i + t)) (G := fun t => G (i + t)) (u - i) (by omega) (fun j a c => he (i + j) (by omega) (by omega))
  rw [e3] at e1
  omega
theorem WR_cmp_d {F G : Int → Int} {u N M i : Int} (h1 : WR F u N) (h2 : WR G u M) (h0 : 0 ≤ i) (hi : i < u) (he : ∀ j, i < j → j < u → F j = G j) (h : F i < G i) : N < M := by
  have a := VL_hi (b := 1000000000) (F := F) (G := G) (i := i + 1) (by omega) (show i + 1 ≤ u by omega) (fun j x y => he j (by omega) y)
  rw [VL_s h0, VL_s h0, h1.2.2.2, h2.2.2.2] at a
  have b1 := VL_bd (b := 1000000000) (F := F) (by decide) i h0 (fun j x y => h1.2.1 j x (by omega))
  have b2 := VL_bd (b := 1000000000) (F := G) (by decide) i h0 (fun j x y => h2.2.1 j x (by omega))
  have p := PW_pos (b := 1000000000) (by decide) i
  have q := Int.mul_le_mul_of_nonneg_right (show F i + 1 ≤ G i by omega) (show 0 ≤ PW 1000000000 i by omega)
  rw [Int.add_mul] at q
  omega
theorem WR_cmp_e {F G : Int → Int} {u N M : Int} (h1 : WR F u N) (h2 : WR G u M) (he : ∀ j, -1 < j → j < u → F j = G j) : N = M := by
  rw [← h1.2.2.2, ← h2.2.2.2]
  exact VL_c u h1.1.1 (fun j x y => he j (by omega) y)
theorem WR_c {F G : Int → Int} {u N : Int} (h : WR G u N) (he : ∀ j, 0 ≤ j → j < u → F j = G j) : WR F u N := by
  refine ⟨h.1, fun j a b => by rw [he j a b]; exact h.2.1 j a b, fun q => ?_, ?_⟩
  · rw [he _ (by omega) (by omega)]; exact h.2.2.1 q
  · rw [← h.2.2.2]; exact VL_c u h.1.1 he
theorem cp_in {F G : Int → Int} {sp dp n k : Int} (h1 : dp ≤ k) (h2 : k < dp + n) : cpI F G sp dp n k = F (sp + (k - dp)) := if_pos ⟨h1, h2⟩
theorem cp_out {F G : Int → Int} {sp dp n k : Int} (h : k < dp ∨ dp + n ≤ k) : cpI F G sp dp n k = G k := if_neg (by omega)
theorem become_e {F G : Int → Int} {v M : Int} (h : WR G v M) : WR (cpI G F 0 0 v) v M := WR_c h (fun j a b => by rw [cp_in (by omega) (by omega)]; congr 1; omega)
theorem small_e0 {F : Int → Int} {k : Int} (h : k = 0) : WR (up F 0 k) 0 k := ⟨by omega, fun j a b => by omega, fun q => by omega, by rw [VL_0, h]⟩
theorem small_e1 {F : Int → Int} {k : Int} (h0 : 0 ≤ k) (h1 : k < 1000000000) (h : k ≠ 0) : WR (up F 0 k) 1 k := by
  refine ⟨by omega, fun j a b => ?_, fun q => ?_, by rw [VL_one, up_s]⟩
  · rw [show j = 0 by omega, up_s]; omega
  · rw [show (1 : Int) - 1 = 0 by omega, up_s]; omega
/-! divided by a small number, from the top -/
def dbsJ (F0 : Int → Int) (u dv : Int) (F : Int → Int) (rs i : Int) : Prop := -1 ≤ i ∧ i < u ∧ 0 ≤ rs ∧ rs < dv ∧ (∀ j, i < j → j < u → 0 ≤ F j ∧ F j < 1000000000) ∧ (∀ j, j ≤ i → F j = F0 j) ∧ VL 1000000000 (fun t => F (i + 1 + t)) (u - 1 - i) * dv + rs = VL 1000000000 (fun t => F0 (i + 1 + t)) (u - 1 - i)
theorem dbs_0 {F0 : Int → Int} {u dv : Int} (hu : 0 ≤ u) (hd : 1 ≤ dv) : dbsJ F0 u dv F0 0 (u - 1) := by
  refine ⟨by omega, by omega, by omega, by omega, fun j a b => by omega, fun _ _ => rfl, ?_⟩
  rw [show u - 1 - (u - 1) = 0 by omega, VL_0]
  omega
theorem VL_dn {F : Int → Int} {i u : Int} (h : i < u) : VL 1000000000 (fun t => F (i + t)) (u - i) = F i + 1000000000 * VL 1000000000 (fun t => F (i + 1 + t)) (u - 1 - i) := by
  have e := VL_split (b := 1000000000) (F := fun t => F (i + t)) (i := 1) (by omega) (u - 1 - i) (by omega)
  rw [show 1 + (u - 1 - i) = u - i by omega, VL_one, PW_1] at e
  have e2 := VL_c (b := 1000000000) (F := fun t => F (i + (1 + t))) (G := fun t => F (i + 1 + t)) (u - 1 - i) (by omega) (fun j _ _ => by show F (i + (1 + j)) = F (i + 1 + j); congr 1; omega)
  rw [e2] at e
  simpa using e
theorem dbs_x {F0 F : Int → Int} {u dv rs i : Int} (hJ : dbsJ F0 u dv F rs i) (h0 : 0 ≤ i) (hd : 0 ≤ F0 i ∧ F0 i < 1000000000) : F i = F0 i ∧ 0 ≤ rs * 1000000000 + F i ∧ rs * 1000000000 + F i < dv * 1000000000 ∧ 0 ≤ (rs * 1000000000 + F i) / dv ∧ (rs * 1000000000 + F i) / dv < 1000000000 := by
  obtain ⟨a1, a2, a3, a4, a5, a6, a7⟩ := hJ
  have e := a6 i (by omega)
  have l : rs * 1000000000 + F i < dv * 1000000000 := by omega
  refine ⟨e, by omega, l, Int.ediv_nonneg (by omega) (by omega), ?_⟩
  rw [Int.mul_comm dv] at l
  exact Int.ediv_lt_of_lt_mul (by omega) l
theorem dbs_s {F0 F : Int → Int} {u dv rs i : Int} (hJ : dbsJ F0 u dv F rs i) (h0 : 0 ≤ i) (hd : 0 ≤ F0 i ∧ F0 i < 1000000000) : dbsJ F0 u dv (up F i ((rs * 1000000000 + F i) / dv)) ((rs * 1000000000 + F i) % dv) (i - 1) := by
  have hx := dbs_x hJ h0 hd
  obtain ⟨a1, a2, a3, a4, a5, a6, a7⟩ := hJ
  have e := a6 i (by omega)
  refine ⟨by omega, by omega, Int.emod_nonneg _ (by omega), Int.emod_lt_of_pos _ (by omega), fun j b1 b2 => ?_, fun j b1 => ?_, ?_⟩
  · by_cases q : j = i
    · subst q; rw [up_s]; omega
    · rw [up_n q]; exact a5 j (by omega) b2
  · rw [up_n (by omega)]; exact a6 j (by omega)
  · have e1 := VL_dn (F := up F i ((rs * 1000000000 + F i) / dv)) a2
    have e2 := VL_dn (F := F0) a2
    have e3 := VL_c (b := 1000000000) (F := fun t => up F i ((rs * 1000000000 + F i) / dv) (i + 1 + t)) (G := fun t => F (i + 1 + t)) (u - 1 - i) (by omega) (fun j _ _ => up_n (by omega))
    rw [e3, up_s] at e1
    rw [show i - 1 + 1 = i by omega, show u - 1 - (i - 1) = u - i by omega, e1, e2]
    have e4 := Int.mul_ediv_add_emod (rs * 1000000000 + F i) dv
    rw [Int.mul_comm] at e4
    grind
theorem dbs_e {F0 F : Int → Int} {u dv rs i N : Int} (hW : WD F0 u N) (hJ : dbsJ F0 u dv F rs i) (hi : i < 0) : WD F u (N / dv) := by
  obtain ⟨a1, a2, a3, a4, a5, a6, a7⟩ := hJ
  have hi2 : i = -1 := by omega
  subst hi2
  refine ⟨hW.1, fun j a b => a5 j (by omega) b, ?_⟩
  have e1 := VL_c (b := 1000000000) (F := fun t => F (-1 + 1 + t)) (G := F) (u - 1 - -1) (by omega) (fun j _ _ => by show F (-1 + 1 + j) = F j; congr 1; omega)
  have e2 := VL_c (b := 1000000000) (F := fun t => F0 (-1 + 1 + t)) (G := F0) (u - 1 - -1) (by omega) (fun j _ _ => by show F0 (-1 + 1 + j) = F0 j; congr 1; omega)
  rw [e1, e2, show u - 1 - -1 = u by omega, hW.2.2] at a7
  rw [← a7, Int.add_comm, Int.add_mul_ediv_right _ _ (by omega), Int.ediv_eq_zero_of_lt a3 a4]
  omega
/-! moved up, moved down -/
theorem widen_r {F : Int → Int} {u N d : Int} (hW : WR F u N) (hu : u ≠ 0) (hd : 0 ≤ d) (hb : N * PW 10 d < PW 1000000000 31) : d / 9 + u < 32 := by
  have h1 := WR_ge hW (by have := hW.1; omega)
  have h2 := PW_pos (b := 10) (by decide) d
  have h3 := Int.mul_le_mul_of_nonneg_right h1 (show 0 ≤ PW 10 d by omega)
  have h4 := PW_mono (b := 10) (i := 9 * (d / 9)) (j := d) (by decide) (by omega) (by omega)
  rw [← PW_B (by omega)] at h4
  have h5 := Int.mul_le_mul_of_nonneg_left h4 (show 0 ≤ PW 1000000000 (u - 1) by have := PW_pos (b := 1000000000) (by decide) (u - 1); omega)
  rw [← PW_add (by have := hW.1; omega) (by omega)] at h5
  apply Decidable.byContradiction
  intro q
  have h6 := PW_mono (b := 1000000000) (i := 31) (j := u - 1 + d / 9) (by decide) (by decide) (by omega)
  omega
theorem widen_e {F G : Int → Int} {u N k : Int} (hW : WR F u N) (hu : 0 < u) (hk : 0 ≤ k) (hb : k + u ≤ 32) (h0 : ∀ j, 0 ≤ j → j < k → G j = 0) (h1 : ∀ j, k ≤ j → j < k + u → G j = F (j - k)) : WR G (u + k) (N * PW 1000000000 k) := by
  refine ⟨by omega, fun j a b => ?_, fun q => ?_, ?_⟩
  · by_cases q : j < k
    · rw [h0 j a q]; omega
    · rw [h1 j (by omega) (by omega)]; exact hW.2.1 _ (by omega) (by omega)
  · rw [h1 _ (by omega) (by omega), show u + k - 1 - k = u - 1 by omega]
    exact hW.2.2.1 hu
  · have e := VL_split (b := 1000000000) (F := G) hk u (by omega)
    rw [show k + u = u + k by omega, VL_zero k hk h0, VL_c (G := F) u (by omega) (fun j a b => by show G (k + j) = F j; rw [h1 _ (by omega) (by omega)]; congr 1; omega), hW.2.2.2] at e
    rw [e, Int.mul_comm]
    omega
theorem pw_split {d : Int} (h : 0 ≤ d) : PW 10 d = PW 1000000000 (d / 9) * PW 10 (d % 9) := by
  rw [PW_B (by omega), ← PW_add (by omega) (by omega), show 9 * (d / 9) + d % 9 = d by omega]
theorem cut_e {F : Int → Int} {u N k : Int} (hW : WR F u N) (hk : 0 ≤ k) (h : k ≤ u) : WD (cpI F F k 0 (u - k)) (u - k) (N / PW 1000000000 k) := by
  refine ⟨by have := hW.1; omega, fun j a b => ?_, ?_⟩
  · rw [cp_in (by omega) (by omega)]; exact hW.2.1 _ (by omega) (by omega)
  · rw [← VL_up_div hW.2.1 hW.2.2.2 hk h]
    exact VL_c _ (by omega) (fun j a b => by rw [cp_in (by omega) (by omega)]; show F (k + (j - 0)) = F (k + j); congr 1; omega)
theorem cut_f {F : Int → Int} {u N d : Int} (hW : WR F u N) (hd : 0 ≤ d) : N / PW 1000000000 (min (d / 9) u) / PW 10 (d % 9) = N / PW 10 d := by
  by_cases q : d / 9 ≤ u
  · rw [show min (d / 9) u = d / 9 by omega, pw_split hd, Int.ediv_ediv_of_nonneg (by have := PW_pos (b := 1000000000) (by decide) (d / 9); omega)]
  · have b := WR_bd hW
    have e1 := PW_mono (b := 1000000000) (i := u) (j := d / 9) (by decide) hW.1.1 (by omega)
    rw [PW_B (k := d / 9) (by omega)] at e1
    have e2 := PW_mono (b := 10) (i := 9 * (d / 9)) (j := d) (by decide) (by omega) (by omega)
    rw [show min (d / 9) u = u by omega, Int.ediv_eq_zero_of_lt b.1 b.2, Int.ediv_eq_zero_of_lt b.1 (by omega), Int.zero_ediv]
