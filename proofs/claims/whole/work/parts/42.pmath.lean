/-! what is printed of a value -/
def dg (N p : Int) : Int := 48 + N / PW 10 p % 10
theorem dg_b {N p : Int} : 48 ≤ dg N p ∧ dg N p ≤ 57 := by unfold dg; omega
/-- a number that isn't 0: its sign, L digits, the point before the last sc -/
def prQ (ng sc N L j : Int) : Int := if j < ng then 45 else if sc = 0 then dg N (L - 1 - (j - ng)) else if j - ng < L - sc then dg N (L - 1 - (j - ng)) else if j - ng = L - sc then 46 else dg N (L - (j - ng))
def prT (t ng sc : Int) (C : Int → Int) (N L j : Int) : Int := if t = 1 then C j else if N = 0 then 48 else prQ ng sc N L j
theorem prQ_s {ng sc N L j : Int} (h : j < ng) : prQ ng sc N L j = 45 := if_pos h
theorem prQ_p {ng sc N L j : Int} (h0 : sc ≠ 0) (h1 : j = ng + (L - sc)) (h2 : sc ≤ L) : prQ ng sc N L j = 46 := by
  unfold prQ
  rw [if_neg (by omega), if_neg h0, if_neg (by omega), if_pos (by omega)]
theorem prQ_1 {ng sc N L j q : Int} (h1 : j = ng + (L - 1 - q)) (h2 : sc ≤ q) (h3 : 0 ≤ q) (hq : q < L) (h0 : 0 ≤ sc) : prQ ng sc N L j = dg N q := by
  unfold prQ
  rw [if_neg (by omega)]
  split
  · congr 1; omega
  · rw [if_pos (by omega)]; congr 1; omega
theorem prQ_2 {ng sc N L j q : Int} (h1 : j = ng + (L - q)) (h2 : q < sc) (h3 : 0 ≤ q) (h4 : sc ≤ L) : prQ ng sc N L j = dg N q := by
  unfold prQ
  rw [if_neg (by omega), if_neg (by omega), if_neg (by omega), if_neg (by omega)]
  congr 1; omega
/-- the paper while digits are put on it: places above q are done -/
def pdJ (P : Int → Int) (pl ng sc N L : Int) (P9 : Int → Int) (p9 q : Int) : Prop := -1 ≤ q ∧ q < L ∧ ((sc - 1 ≤ q ∧ p9 = pl + (ng + (L - 1 - q))) ∨ (q < sc - 1 ∧ p9 = pl + (ng + (L - q))) ∨ (sc = 0 ∧ q = -1 ∧ p9 = pl + (ng + L))) ∧ (∀ j, j < pl → P9 j = P j) ∧ ∀ j, 0 ≤ j → j < p9 - pl → P9 (pl + j) = prQ ng sc N L j
theorem pd_p {P P9 : Int → Int} {pl ng sc N L p9 q : Int} (hJ : pdJ P pl ng sc N L P9 p9 q) (hq : 0 ≤ q) (hs : q = sc - 1) (hsL : sc ≤ L) (hp : 0 ≤ pl) (hng : 0 ≤ ng) : p9 = pl + (ng + (L - 1 - q)) ∧ (∀ j, j < pl → up P9 p9 46 j = P j) ∧ ∀ j, 0 ≤ j → j < p9 + 1 - pl → up P9 p9 46 (pl + j) = prQ ng sc N L j := by
  obtain ⟨a1, a2, a3, a4, a5⟩ := hJ
  have e : p9 = pl + (ng + (L - 1 - q)) := by omega
  refine ⟨e, fun j x => by rw [up_n (by omega)]; exact a4 j x, fun j x y => ?_⟩
  by_cases z : pl + j = p9
  · rw [z, up_s, prQ_p (by omega) (by omega) hsL]
  · rw [up_n z]; exact a5 j x (by omega)
theorem pd_1 {P P9 : Int → Int} {pl ng sc N L p9 q : Int} (hJ : pdJ P pl ng sc N L P9 p9 q) (hq : 0 ≤ q) (hs : q ≠ sc - 1) (hsL : 0 ≤ sc ∧ sc ≤ L) (hp : 0 ≤ pl) (hng : 0 ≤ ng) : pdJ P pl ng sc N L (up P9 p9 (dg N q)) (p9 + 1) (q - 1) := by
  obtain ⟨a1, a2, a3, a4, a5⟩ := hJ
  refine ⟨by omega, by omega, by omega, fun j x => by rw [up_n (by omega)]; exact a4 j x, fun j x y => ?_⟩
  by_cases z : pl + j = p9
  · rw [z, up_s]
    by_cases w : sc ≤ q
    · rw [prQ_1 (q := q) (by omega) w hq a2 hsL.1]
    · rw [prQ_2 (q := q) (by omega) (by omega) hq hsL.2]
  · rw [up_n z]; exact a5 j x (by omega)
theorem pd_2 {P P8 : Int → Int} {pl ng sc N L p9 q : Int} (hq : 0 ≤ q) (hs : q = sc - 1) (hsL : sc ≤ L) (hp : 0 ≤ pl) (hng : 0 ≤ ng) (e : p9 = pl + (ng + (L - 1 - q))) (h1 : ∀ j, j < pl → P8 j = P j) (h2 : ∀ j, 0 ≤ j → j < p9 + 1 - pl → P8 (pl + j) = prQ ng sc N L j) : pdJ P pl ng sc N L (up P8 (p9 + 1) (dg N q)) (p9 + 1 + 1) (q - 1) := by
  refine ⟨by omega, by omega, by omega, fun j x => by rw [up_n (by omega)]; exact h1 j x, fun j x y => ?_⟩
  by_cases z : pl + j = p9 + 1
  · rw [z, up_s, prQ_2 (q := q) (by omega) (by omega) hq hsL]
  · rw [up_n z]; exact h2 j x (by omega)
