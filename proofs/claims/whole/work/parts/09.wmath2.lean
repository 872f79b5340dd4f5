/-! sums and differences of Wholes -/
def ze (F : Int → Int) (u : Int) : Int → Int := fun j => if j < u then F j else 0
theorem ze_in {F : Int → Int} {u j : Int} (h : j < u) : ze F u j = F j := if_pos h
theorem ze_out {F : Int → Int} {u j : Int} (h : u ≤ j) : ze F u j = 0 := if_neg (by omega)
theorem VL_ze {F : Int → Int} {u n : Int} (h0 : 0 ≤ u) (h : u ≤ n) : VL 1000000000 (ze F u) n = VL 1000000000 F u := by
  have e := VL_split (b := 1000000000) (F := ze F u) h0 (n - u) (by omega)
  rw [show u + (n - u) = n by omega, VL_zero (n - u) (by omega) (fun j a b => ze_out (by omega)), VL_c (G := F) u h0 (fun j a b => ze_in b)] at e
  omega
theorem ze_bd {F : Int → Int} {u N j : Int} (hW : WR F u N) (h0 : 0 ≤ j) : 0 ≤ ze F u j ∧ ze F u j < 1000000000 := by
  by_cases q : j < u
  · rw [ze_in q]; exact hW.2.1 j h0 q
  · rw [ze_out (by omega)]; omega
def addJ (F G : Int → Int) (u v : Int) (F9 : Int → Int) (cy i : Int) : Prop := 0 ≤ i ∧ 0 ≤ cy ∧ cy ≤ 1 ∧ (∀ j, 0 ≤ j → j < i → 0 ≤ F9 j ∧ F9 j < 1000000000) ∧ (∀ j, i ≤ j → F9 j = F j) ∧ VL 1000000000 F9 i + cy * PW 1000000000 i = VL 1000000000 (ze F u) i + VL 1000000000 (ze G v) i
theorem add_0 {F G : Int → Int} {u v : Int} : addJ F G u v F 0 0 := ⟨by omega, by omega, by omega, fun j a b => by omega, fun _ _ => rfl, by rw [VL_0, VL_0, VL_0]; omega⟩
theorem add_s {F G F9 : Int → Int} {u v cy i x y k : Int} (hJ : addJ F G u v F9 cy i) (hx : x = ze F u i) (hy : y = ze G v i) (bx : 0 ≤ x ∧ x < 1000000000) (by_ : 0 ≤ y ∧ y < 1000000000) (hk : (k = 1 ∧ 1000000000 ≤ x + y + cy) ∨ (k = 0 ∧ x + y + cy < 1000000000)) : addJ F G u v (up F9 i (x + y + cy - k * 1000000000)) k (i + 1) := by
  obtain ⟨a1, a2, a3, a4, a5, a6⟩ := hJ
  refine ⟨by omega, by omega, by omega, fun j b1 b2 => ?_, fun j b1 => ?_, ?_⟩
  · by_cases q : j = i
    · subst q; rw [up_s]; omega
    · rw [up_n q]; exact a4 j b1 (by omega)
  · rw [up_n (by omega)]; exact a5 j (by omega)
  · rw [VL_s a1, VL_s a1, VL_s a1, VL_up a1 (by omega), up_s, PW_s a1, ← hx, ← hy]
    grind
theorem add_h {F G F9 : Int → Int} {u v cy i : Int} (hJ : addJ F G u v F9 cy i) (h : i < u) : F9 i = ze F u i := by rw [hJ.2.2.2.2.1 i (Int.le_refl i), ze_in h]
theorem add_n {F G F9 : Int → Int} {u v cy N M : Int} (hW : WR F u N) (hV : WR G v M) (hJ : addJ F G u v F9 cy (max u v)) : VL 1000000000 F9 (max u v) + cy * PW 1000000000 (max u v) = N + M := by
  have := hJ.2.2.2.2.2
  rw [VL_ze hW.1.1 (by omega), VL_ze hV.1.1 (by omega), hW.2.2.2, hV.2.2.2] at this
  exact this
theorem add_e0 {F G F9 : Int → Int} {u v cy N M : Int} (hW : WR F u N) (hV : WR G v M) (hJ : addJ F G u v F9 cy (max u v)) (hc : cy ≤ 0) : WR F9 (max u v) (N + M) := by
  have e := add_n hW hV hJ
  have hcy := hJ.2.1
  rw [show cy = 0 by omega] at e
  have b1 := (WR_bd hW).1
  have b2 := (WR_bd hV).1
  have hu := hW.1
  have hv := hV.1
  refine ⟨by omega, hJ.2.2.2.1, fun q => top_ne hJ.2.2.2.1 q ?_, by omega⟩
  by_cases h : u ≤ v
  · have := WR_ge hV (by omega)
    rw [show max u v = v by omega] at *
    omega
  · have := WR_ge hW (by omega)
    rw [show max u v = u by omega] at *
    omega
theorem add_e1 {F G F9 : Int → Int} {u v cy N M : Int} (hW : WR F u N) (hV : WR G v M) (hJ : addJ F G u v F9 cy (max u v)) (hc : 0 < cy) (hu : max u v < 32) : WR (up F9 (max u v) cy) (max u v + 1) (N + M) := by
  have e := add_n hW hV hJ
  obtain ⟨a1, a2, a3, a4, a5, a6⟩ := hJ
  refine ⟨by omega, fun j b1 b2 => ?_, fun _ => ?_, ?_⟩
  · by_cases q : j = max u v
    · subst q; rw [up_s]; omega
    · rw [up_n q]; exact a4 j b1 (by omega)
  · rw [show max u v + 1 - 1 = max u v by omega, up_s]; omega
  · rw [VL_s a1, VL_up a1 (by omega), up_s, e]
theorem add_e2 {F G F9 : Int → Int} {u v cy N M : Int} (hW : WR F u N) (hV : WR G v M) (hJ : addJ F G u v F9 cy (max u v)) (hc : 0 < cy) (hb : N + M < PW 1000000000 32) : max u v < 32 := by
  have e := add_n hW hV hJ
  obtain ⟨a1, a2, a3, a4, a5, a6⟩ := hJ
  apply Decidable.byContradiction
  intro q
  have hu := hW.1
  have hv := hV.1
  have h32 : max u v = 32 := by omega
  rw [h32] at a4 e
  have g1 := (VL_bd (b := 1000000000) (F := F9) (by decide) 32 (by omega) a4).1
  rw [show cy = 1 by omega] at e
  omega
def subJ (F G : Int → Int) (v : Int) (F9 : Int → Int) (bw i : Int) : Prop := 0 ≤ i ∧ 0 ≤ bw ∧ bw ≤ 1 ∧ (∀ j, 0 ≤ j → j < i → 0 ≤ F9 j ∧ F9 j < 1000000000) ∧ (∀ j, i ≤ j → F9 j = F j) ∧ VL 1000000000 F9 i - bw * PW 1000000000 i = VL 1000000000 F i - VL 1000000000 (ze G v) i
theorem sub_0 {F G : Int → Int} {v : Int} : subJ F G v F 0 0 := ⟨by omega, by omega, by omega, fun j a b => by omega, fun _ _ => rfl, by rw [VL_0, VL_0]; omega⟩
theorem sub_s {F G F9 : Int → Int} {v bw i y k : Int} (hJ : subJ F G v F9 bw i) (hd : 0 ≤ F i ∧ F i < 1000000000) (hy : y = ze G v i) (by_ : 0 ≤ y ∧ y < 1000000000) (hk : (k = 1 ∧ F9 i - y - bw < 0) ∨ (k = 0 ∧ 0 ≤ F9 i - y - bw)) : subJ F G v (up F9 i (F9 i - y - bw + k * 1000000000)) k (i + 1) := by
  obtain ⟨a1, a2, a3, a4, a5, a6⟩ := hJ
  have e5 := a5 i (by omega)
  refine ⟨by omega, by omega, by omega, fun j b1 b2 => ?_, fun j b1 => ?_, ?_⟩
  · by_cases q : j = i
    · subst q; rw [up_s]; omega
    · rw [up_n q]; exact a4 j b1 (by omega)
  · rw [up_n (by omega)]; exact a5 j (by omega)
  · rw [VL_s a1, VL_s a1, VL_s a1, VL_up a1 (by omega), up_s, PW_s a1, ← hy, e5]
    grind
theorem sub_e {F G F9 : Int → Int} {u v bw i N M : Int} (hW : WR F u N) (hV : WR G v M) (hJ : subJ F G v F9 bw i) (hi : i = u) (hm : M ≤ N) : WD F9 u (N - M) := by
  subst hi
  have hv : v ≤ i := by
    apply Decidable.byContradiction
    intro q
    have := WR_cmp_u hW hV (by omega)
    omega
  obtain ⟨a1, a2, a3, a4, a5, a6⟩ := hJ
  rw [VL_ze hV.1.1 hv, hW.2.2.2, hV.2.2.2] at a6
  have g := VL_bd (b := 1000000000) (F := F9) (by decide) i a1 a4
  have hb : bw = 0 := by
    apply Decidable.byContradiction
    intro q
    rw [show bw = 1 by omega] at a6
    omega
  rw [hb] at a6
  exact ⟨hW.1, a4, by omega⟩
/-! products -/
theorem VL_upd {b : Int} {F : Int → Int} {k v n : Int} (h0 : 0 ≤ k) (h : k < n) : VL b (up F k v) n = VL b F n + (v - F k) * PW b k := by
  have e1 := VL_hi (b := b) (F := up F k v) (G := F) (i := k + 1) (u := n) (by omega) (by omega) (fun j a c => up_n (by omega))
  rw [VL_s h0, VL_s h0, VL_up h0 (by omega), up_s] at e1
  rw [Int.sub_mul]
  omega
def prJ (P Q : Int → Int) (L qv NB : Int) (F9 : Int → Int) (i j cy : Int) : Prop := 0 ≤ i ∧ 0 ≤ j ∧ 0 ≤ cy ∧ cy < 1000000000 ∧ (∀ t, 0 ≤ t → t < L → 0 ≤ F9 t ∧ F9 t < 1000000000) ∧ (∀ t, i + qv ≤ t → t < L → F9 t = 0) ∧ VL 1000000000 F9 L + cy * PW 1000000000 (i + j) = VL 1000000000 P i * NB + P i * PW 1000000000 i * VL 1000000000 Q j
theorem pr_0 {P Q F9 : Int → Int} {L qv NB : Int} (hL : 0 ≤ L) (hz : ∀ j, 0 ≤ j → j < L → F9 j = 0) (hq : 0 ≤ qv) : prJ P Q L qv NB F9 0 0 0 :=
  ⟨by omega, by omega, by omega, by omega, fun t a b => by rw [hz t a b]; omega, fun t a b => hz t (by omega) b, by rw [VL_zero L hL hz, VL_0, VL_0]; omega⟩
theorem pr_x {P Q F9 : Int → Int} {L qv NB i j cy : Int} (hJ : prJ P Q L qv NB F9 i j cy) (hk : i + j < L) (hp : 0 ≤ P i ∧ P i < 1000000000) (hq : 0 ≤ Q j ∧ Q j < 1000000000) : 0 ≤ cy + (F9 (i + j) + P i * Q j) ∧ cy + (F9 (i + j) + P i * Q j) < 1000000000000000000 := by
  obtain ⟨a1, a2, a3, a4, a5, a6, a7⟩ := hJ
  have h1 := a5 (i + j) (by omega) hk
  have h2 := Int.mul_nonneg hp.1 hq.1
  have h3 := Int.mul_le_mul_of_nonneg_right (show P i ≤ 999999999 by omega) hq.1
  omega
theorem pr_s {P Q F9 : Int → Int} {L qv NB i j cy : Int} (hJ : prJ P Q L qv NB F9 i j cy) (hk : i + j < L) (hj : j < qv) (hp : 0 ≤ P i ∧ P i < 1000000000) (hq : 0 ≤ Q j ∧ Q j < 1000000000) : prJ P Q L qv NB (up F9 (i + j) ((cy + (F9 (i + j) + P i * Q j)) % 1000000000)) i (j + 1) ((cy + (F9 (i + j) + P i * Q j)) / 1000000000) := by
  have hx := pr_x hJ hk hp hq
  obtain ⟨a1, a2, a3, a4, a5, a6, a7⟩ := hJ
  obtain ⟨x, hxe⟩ : ∃ x, x = cy + (F9 (i + j) + P i * Q j) := ⟨_, rfl⟩
  rw [← hxe] at hx ⊢
  refine ⟨a1, by omega, by omega, by omega, fun t b1 b2 => ?_, fun t b1 b2 => ?_, ?_⟩
  · by_cases q : t = i + j
    · rw [q, up_s]; omega
    · rw [up_n q]; exact a5 t b1 b2
  · rw [up_n (by omega)]; exact a6 t b1 b2
  · rw [VL_upd (by omega) hk, show i + (j + 1) = i + j + 1 by omega, PW_s (by omega), VL_s a2]
    have e1 : x = x / 1000000000 * 1000000000 + x % 1000000000 := by omega
    have e2 : (x / 1000000000 * 1000000000 + x % 1000000000) * PW 1000000000 (i + j) = (cy + (F9 (i + j) + P i * Q j)) * PW 1000000000 (i + j) := by rw [← e1, hxe]
    have e3 := PW_add (b := 1000000000) a1 a2
    grind
theorem pr_n {P Q F9 : Int → Int} {L qv NB i j cy : Int} (hJ : prJ P Q L qv NB F9 i j cy) (hj : j = qv) (hq : VL 1000000000 Q qv = NB) (hk : i + qv < L) (hqv : 0 ≤ qv) : prJ P Q L qv NB (up F9 (i + qv) cy) (i + 1) 0 0 := by
  obtain ⟨a1, a2, a3, a4, a5, a6, a7⟩ := hJ
  subst hj
  refine ⟨by omega, by omega, by omega, by omega, fun t b1 b2 => ?_, fun t b1 b2 => ?_, ?_⟩
  · by_cases q : t = i + j
    · rw [q, up_s]; omega
    · rw [up_n q]; exact a5 t b1 b2
  · rw [up_n (by omega)]; exact a6 t (by omega) b2
  · rw [VL_upd (by omega) hk, a6 (i + j) (by omega) hk, VL_s a1, VL_0]
    rw [hq] at a7
    grind
theorem pr_e {P Q F9 : Int → Int} {L pu qv NA NB i : Int} (hJ : prJ P Q L qv NB F9 i 0 0) (hi : i = pu) (hP : VL 1000000000 P pu = NA) (hL : 0 ≤ L ∧ L ≤ 32) : WD F9 L (NA * NB) := by
  obtain ⟨a1, a2, a3, a4, a5, a6, a7⟩ := hJ
  subst hi
  rw [VL_0, hP] at a7
  exact ⟨hL, a5, by omega⟩
/-! a multiple taken away from the groups at a place, and given back -/
def sh (F : Int → Int) (p : Int) : Int → Int := fun t => F (p + t)
theorem sh_up {F : Int → Int} {p i v : Int} : sh (up F (p + i) v) p = up (sh F p) i v := by
  funext t
  unfold sh up
  by_cases q : t = i
  · rw [if_pos (by omega), if_pos q]
  · rw [if_neg (by omega), if_neg q]
def gbJ (F G : Int → Int) (p : Int) (F9 : Int → Int) (cy i : Int) : Prop := 0 ≤ i ∧ 0 ≤ cy ∧ cy ≤ 1 ∧ (∀ j, 0 ≤ j → j < i → 0 ≤ F9 (p + j) ∧ F9 (p + j) < 1000000000) ∧ (∀ j, j < p ∨ p + i ≤ j → F9 j = F j) ∧ VL 1000000000 (sh F9 p) i + cy * PW 1000000000 i = VL 1000000000 (sh F p) i + VL 1000000000 G i
theorem gb_0 {F G : Int → Int} {p : Int} : gbJ F G p F 0 0 := ⟨by omega, by omega, by omega, fun j a b => by omega, fun _ _ => rfl, by rw [VL_0, VL_0]; omega⟩
theorem gb_s {F G F9 : Int → Int} {p cy i k : Int} (hJ : gbJ F G p F9 cy i) (hx : 0 ≤ F (p + i) ∧ F (p + i) < 1000000000) (hy : 0 ≤ G i ∧ G i < 1000000000) (hk : (k = 1 ∧ 1000000000 ≤ F9 (p + i) + G i + cy) ∨ (k = 0 ∧ F9 (p + i) + G i + cy < 1000000000)) : gbJ F G p (up F9 (p + i) (F9 (p + i) + G i + cy - k * 1000000000)) k (i + 1) := by
  obtain ⟨a1, a2, a3, a4, a5, a6⟩ := hJ
  have e := a5 (p + i) (by omega)
  refine ⟨by omega, by omega, by omega, fun j b1 b2 => ?_, fun j b1 => ?_, ?_⟩
  · by_cases q : j = i
    · rw [q, up_s]; omega
    · rw [up_n (by omega)]; exact a4 j b1 (by omega)
  · rw [up_n (by omega)]; exact a5 j (by omega)
  · rw [sh_up, VL_s a1, VL_s a1, VL_s a1, VL_up a1 (by omega), up_s, PW_s a1, e]
    have : sh F p i = F (p + i) := rfl
    grind
def taJ (F G : Int → Int) (p tm : Int) (F9 : Int → Int) (cy i : Int) : Prop := 0 ≤ i ∧ -1000000000 ≤ cy ∧ cy ≤ 0 ∧ (∀ j, 0 ≤ j → j < i → 0 ≤ F9 (p + j) ∧ F9 (p + j) < 1000000000) ∧ (∀ j, j < p ∨ p + i ≤ j → F9 j = F j) ∧ VL 1000000000 (sh F9 p) i + cy * PW 1000000000 i = VL 1000000000 (sh F p) i - tm * VL 1000000000 G i
theorem ta_0 {F G : Int → Int} {p tm : Int} : taJ F G p tm F 0 0 := ⟨by omega, by omega, by omega, fun j a b => by omega, fun _ _ => rfl, by rw [VL_0, VL_0]; omega⟩
theorem ta_x {F G F9 : Int → Int} {p tm cy i : Int} (hJ : taJ F G p tm F9 cy i) (hx : 0 ≤ F (p + i) ∧ F (p + i) < 1000000000) (hy : 0 ≤ G i ∧ G i < 1000000000) (ht : 0 ≤ tm ∧ tm < 1000000000) : -1000000000000000000 ≤ cy + (F9 (p + i) - tm * G i) ∧ cy + (F9 (p + i) - tm * G i) < 1000000000 ∧ F9 (p + i) = F (p + i) ∧ -1000000000 ≤ (cy + (F9 (p + i) - tm * G i)) / 1000000000 ∧ (cy + (F9 (p + i) - tm * G i)) / 1000000000 ≤ 0 := by
  obtain ⟨a1, a2, a3, a4, a5, a6⟩ := hJ
  have e := a5 (p + i) (by omega)
  have h2 := Int.mul_nonneg ht.1 hy.1
  have h3 := Int.mul_le_mul_of_nonneg_right (show tm ≤ 999999999 by omega) hy.1
  omega
theorem ta_s {F G F9 : Int → Int} {p tm cy i : Int} (hJ : taJ F G p tm F9 cy i) (hx : 0 ≤ F (p + i) ∧ F (p + i) < 1000000000) (hy : 0 ≤ G i ∧ G i < 1000000000) (ht : 0 ≤ tm ∧ tm < 1000000000) : taJ F G p tm (up F9 (p + i) ((cy + (F9 (p + i) - tm * G i)) % 1000000000)) ((cy + (F9 (p + i) - tm * G i)) / 1000000000) (i + 1) := by
  have hb := ta_x hJ hx hy ht
  obtain ⟨a1, a2, a3, a4, a5, a6⟩ := hJ
  obtain ⟨x, hxe⟩ : ∃ x, x = cy + (F9 (p + i) - tm * G i) := ⟨_, rfl⟩
  rw [← hxe] at hb ⊢
  refine ⟨by omega, by omega, by omega, fun j b1 b2 => ?_, fun j b1 => ?_, ?_⟩
  · by_cases q : j = i
    · rw [q, up_s]; omega
    · rw [up_n (by omega)]; exact a4 j b1 (by omega)
  · rw [up_n (by omega)]; exact a5 j (by omega)
  · rw [sh_up, VL_s a1, VL_s a1, VL_s a1, VL_up a1 (by omega), up_s, PW_s a1]
    have e0 : sh F p i = F9 (p + i) := hb.2.2.1.symm
    have e1 : x = x / 1000000000 * 1000000000 + x % 1000000000 := by omega
    have e2 : (x / 1000000000 * 1000000000 + x % 1000000000) * PW 1000000000 i = (cy + (F9 (p + i) - tm * G i)) * PW 1000000000 i := by rw [← e1, hxe]
    grind
/-! floorMod and floorDiv -/
theorem tmod_bd {x y : Int} (hy : 0 < y) : -y < x.tmod y ∧ x.tmod y < y := by
  have h1 := Int.emod_nonneg x (show y ≠ 0 by omega)
  have h2 := Int.emod_lt_of_pos x hy
  rw [Int.tmod_eq_emod]
  split
  · omega
  · have h3 : x % y ≠ 0 := fun q => by rename_i z; exact z (Or.inr (Int.dvd_of_emod_eq_zero q))
    omega
theorem tmod_np {x y : Int} (hy : 0 < y) (hx : x < 0) : x.tmod y ≤ 0 := by
  have h2 := Int.emod_lt_of_pos x hy
  rw [Int.tmod_eq_emod]
  split
  · rename_i z
    rcases z with z | z
    · omega
    · have := Int.emod_eq_zero_of_dvd z
      omega
  · omega
theorem fm_1 {x y : Int} (h : x < 0) (hy : 0 < y) (h0 : x.tmod y = 0) : x.tmod y = x % y := by
  rw [Int.tmod_eq_emod] at h0 ⊢
  split at h0
  · rename_i q
    rw [if_pos q]; omega
  · have := Int.emod_lt_of_pos x hy
    omega
theorem fm_2 {x y : Int} (h : x < 0) (hy : 0 < y) (h0 : x.tmod y ≠ 0) : x.tmod y + y = x % y := by
  have hd : ¬ y ∣ x := fun q => h0 (Int.tmod_eq_zero_of_dvd q)
  rw [Int.tmod_eq_emod, if_neg (by rintro (q | q); omega; exact hd q)]
  omega
theorem fd_1 {x y : Int} (h : x < 0) (hy : 0 < y) (h0 : x.tdiv y * y = x) : x.tdiv y = x / y := by
  have hd : y ∣ x := ⟨x.tdiv y, by rw [Int.mul_comm]; exact h0.symm⟩
  exact Int.tdiv_eq_ediv_of_dvd hd
theorem fd_2 {x y : Int} (h : x < 0) (hy : 0 < y) (h0 : x.tdiv y * y ≠ x) : x.tdiv y - 1 = x / y := by
  have hd : ¬ y ∣ x := fun q => h0 (Int.tdiv_mul_cancel q)
  rw [Int.tdiv_eq_ediv, if_neg (by rintro (q | q); omega; exact hd q), Int.sign_eq_one_of_pos hy]
  omega
theorem xor_neg {x y : Int} (hx : r64 x) (hy : r64 y) (h0 : 0 ≤ y) : (0 : Int64) ≤ iL x ^^^ iL y ↔ 0 ≤ x := by
  have e1 : ∀ z : Int, r64 z → (iL z).toBitVec.msb = decide (z < 0) := fun z hz => by
    rw [BitVec.msb_eq_toInt]
    have := iL_toInt hz
    rw [show (iL z).toBitVec.toInt = (iL z).toInt from rfl, this]
  rw [Int64.le_iff_toInt_le, show (0 : Int64).toInt = 0 from rfl]
  have e2 : (iL x ^^^ iL y).toBitVec.msb = decide (x < 0) := by
    rw [Int64.toBitVec_xor, BitVec.msb_xor, e1 x hx, e1 y hy, show decide (y < 0) = false from decide_eq_false (by omega), Bool.xor_false]
  rw [BitVec.msb_eq_toInt] at e2
  have e3 : (iL x ^^^ iL y).toBitVec.toInt = (iL x ^^^ iL y).toInt := rfl
  rw [e3] at e2
  have e4 := decide_eq_decide.mp e2
  omega
section LX
variable {p : Program} {l : Launch} {e : Env} {R : Room} {s : State} {m : MethodId} {args : Array Value} {below : List Frame} {meth : Method} {c : Code} {H : Heap} {locs : List Loc} {cells slots : Nat} {Q : State → Prop} {cc : ByteArray} {pc : Nat} {ls : Array Slot} {rest : List Value}
theorem iv_lxor_ge (hx : p.tables.exec = Jvm.exec) (hb : c.code = cc) {x y : Int} {off : Int} {tgt : Nat} (d : decode cc pc = .ok (.lxor, 1)) (d1 : decode cc (pc + 1) = .ok (.lconst 0, 1)) (d2 : decode cc (pc + 2) = .ok (.lcmp, 1)) (d3 : decode cc (pc + 3) = .ok (.ifCond .ge off, 3)) (ht : ((pc + 3 : Nat) : Int) + off = (tgt : Int)) (h1 : r64 x) (h2 : r64 y) (h3 : 0 ≤ y) (kt : 0 ≤ x → W p l e R s m args below meth c H locs cells slots Q (F0 m tgt ls rest)) (kf : x < 0 → W p l e R s m args below meth c H locs cells slots Q (F0 m (pc + 6) ls rest)) : W p l e R s m args below meth c H locs cells slots Q (F0 m pc ls (.long (iL y) :: .long (iL x) :: rest)) := by
  refine lv_lxor hx hb d (lv_lconst (v := 0) hx hb d1 rfl (W.lcmp hx hb d2 (lv_if_ge hx hb d3 ht (fun h => kt ((xor_neg h1 h2 h3).mp ((lg_cmp_ge _ _).mp h))) (fun h => kf ?_))))
  exact Int.not_le.mp fun q => h ((lg_cmp_ge _ _).mpr ((xor_neg h1 h2 h3).mpr q))
end LX
