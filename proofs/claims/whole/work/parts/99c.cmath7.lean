/-! the class's input as it stands -/
def CIx (D : Int → Int) (at_ en : Int) (st : AS) : Prop := TP 100 D at_ en ∧ agr D at_ en st.inp st.il
theorem typC {D D1 : Int → Int} {at_ en a1 e1 c r : Int} {st : AS} (h : CIx D at_ en st) (hc : 32 ≤ c ∧ c ≤ 126) (hT : TP 100 D1 a1 e1) (h1 : ∀ j, 0 ≤ j → j < en - at_ → D1 (a1 + j) = D (at_ + j)) (h2 : (r = 1 ∧ en - at_ < 100 ∧ e1 - a1 = en - at_ + 1 ∧ D1 (a1 + (en - at_)) = c) ∨ (r = 0 ∧ en - at_ = 100 ∧ e1 - a1 = en - at_)) : r = (typA st c).1 ∧ CIx D1 a1 e1 (typA st c).2 := by
  obtain ⟨-, g1, g2⟩ := h
  unfold typA
  rcases h2 with ⟨k1, k2, k3, k4⟩ | ⟨k1, k2, k3⟩
  · rw [if_neg (by omega)]
    refine ⟨k1, hT, by show st.il + 1 = e1 - a1; omega, fun j x (y : j < st.il + 1) => ?_⟩
    show up st.inp st.il c j = D1 (a1 + j)
    by_cases q : j = st.il
    · rw [q, up_s, g1, k4]
    · rw [up_n q, g2 j x (by omega), h1 j x (by omega)]
  · rw [if_pos (by omega)]
    exact ⟨k1, hT, by show st.il = e1 - a1; omega, fun j x (y : j < st.il) => by show st.inp j = _; rw [g2 j x y, h1 j x (by omega)]⟩
theorem CIx_st {D : Int → Int} {at_ en : Int} {st : AS} (h : CIx D at_ en st) : CI D at_ en (strA st) := by
  obtain ⟨h1, h2⟩ := h
  have e := h2.1
  have t := h1.2.1
  have hs := sk_x (D := st.inp) (p := 0) (e := st.il) (by omega)
  have := sk_sh h2 (by decide) hs
  have k := agr_sh h2 (q := skP st.inp 0 st.il) hs.1
  rw [Int.add_zero] at this
  exact ⟨h1, _, this, k⟩
theorem CI_ex {D : Int → Int} {at_ en q : Int} {st : AS} (h : CI D at_ en st) (hq : skR D at_ en q) : CIx D q en st := ⟨TP_sk h.1 hq, (CI_sk h hq).1⟩
