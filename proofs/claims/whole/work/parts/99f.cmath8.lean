/-! all that the class relies on -/
def XM (dS ad : Nat → Nat) : XT := fun A U H => XC dS A U H ∧ XS ad A U H
theorem XM_ok (dS ad : Nat → Nat) : XOK (XM dS ad) :=
  ⟨fun A B U H h hAB => ⟨(XC_ok dS).1 A B U H h.1 hAB, (XS_ok ad).1 A B U H h.2 hAB⟩, fun A U H H1 h hq => ⟨(XC_ok dS).2.1 A U H H1 h.1 hq, (XS_ok ad).2.1 A U H H1 h.2 hq⟩, fun A u U H hW h => ⟨(XC_ok dS).2.2.1 A u U H hW h.1, (XS_ok ad).2.2.1 A u U H hW h.2⟩, fun A u U H hv h => ⟨(XC_ok dS).2.2.2 A u U H hv h.1, (XS_ok ad).2.2.2 A u U H hv h.2⟩⟩
theorem inS_l {i : Nat} {c : Int} : inS i c ↔ ∃ n : Nat, n < stL.getD i 0 ∧ ((stB.getD i []).getD n 0).toInt = c := by
  constructor
  · rintro ⟨t, h0, h1, h2⟩
    exact ⟨t.toNat, by unfold sL at h1; omega, h2⟩
  · rintro ⟨n, h1, h2⟩
    exact ⟨n, by omega, by unfold sL; omega, by unfold sB; rw [Int.toNat_natCast]; exact h2⟩
theorem ex10 {P : Nat → Prop} : (∃ n, n < 10 ∧ P n) ↔ P 0 ∨ P 1 ∨ P 2 ∨ P 3 ∨ P 4 ∨ P 5 ∨ P 6 ∨ P 7 ∨ P 8 ∨ P 9 := by
  constructor
  · rintro ⟨n, h, hp⟩
    rcases (show n = 0 ∨ n = 1 ∨ n = 2 ∨ n = 3 ∨ n = 4 ∨ n = 5 ∨ n = 6 ∨ n = 7 ∨ n = 8 ∨ n = 9 by omega) with rfl | rfl | rfl | rfl | rfl | rfl | rfl | rfl | rfl | rfl <;> simp [hp]
  · rintro (h | h | h | h | h | h | h | h | h | h)
    · exact ⟨0, by omega, h⟩
    · exact ⟨1, by omega, h⟩
    · exact ⟨2, by omega, h⟩
    · exact ⟨3, by omega, h⟩
    · exact ⟨4, by omega, h⟩
    · exact ⟨5, by omega, h⟩
    · exact ⟨6, by omega, h⟩
    · exact ⟨7, by omega, h⟩
    · exact ⟨8, by omega, h⟩
    · exact ⟨9, by omega, h⟩
theorem in_0 {c : Int} : inS 0 c ↔ (c = 43 ∨ c = 45 ∨ c = 42 ∨ c = 47 ∨ c = 37 ∨ c = 94 ∨ c = 114 ∨ c = 60 ∨ c = 62 ∨ c = 61) := by
  rw [inS_l]
  show (∃ n : Nat, n < 10 ∧ (([43, 45, 42, 47, 37, 94, 114, 60, 62, 61] : List Int32).getD n 0).toInt = c) ↔ _
  rw [ex10]
  show (43 = c ∨ 45 = c ∨ 42 = c ∨ 47 = c ∨ 37 = c ∨ 94 = c ∨ 114 = c ∨ 60 = c ∨ 62 = c ∨ 61 = c) ↔ _
  omega
theorem in_1 {c : Int} : inS 1 c ↔ (c = 118 ∨ c = 100 ∨ c = 107 ∨ c = 112 ∨ c = 110 ∨ c = 90 ∨ c = 88 ∨ c = 115 ∨ c = 120) := by
  rw [inS_l]
  show (∃ n : Nat, n < 9 ∧ (([118, 100, 107, 112, 110, 90, 88, 115, 120] : List Int32).getD n 0).toInt = c) ↔ _
  constructor
  · rintro ⟨n, h1, h2⟩
    rcases (show n = 0 ∨ n = 1 ∨ n = 2 ∨ n = 3 ∨ n = 4 ∨ n = 5 ∨ n = 6 ∨ n = 7 ∨ n = 8 by omega) with rfl | rfl | rfl | rfl | rfl | rfl | rfl | rfl | rfl
    · have h2 : (118 : Int) = c := h2; omega
    · have h2 : (100 : Int) = c := h2; omega
    · have h2 : (107 : Int) = c := h2; omega
    · have h2 : (112 : Int) = c := h2; omega
    · have h2 : (110 : Int) = c := h2; omega
    · have h2 : (90 : Int) = c := h2; omega
    · have h2 : (88 : Int) = c := h2; omega
    · have h2 : (115 : Int) = c := h2; omega
    · have h2 : (120 : Int) = c := h2; omega
  · rintro (rfl | rfl | rfl | rfl | rfl | rfl | rfl | rfl | rfl)
    · exact ⟨0, by decide, rfl⟩
    · exact ⟨1, by decide, rfl⟩
    · exact ⟨2, by decide, rfl⟩
    · exact ⟨3, by decide, rfl⟩
    · exact ⟨4, by decide, rfl⟩
    · exact ⟨5, by decide, rfl⟩
    · exact ⟨6, by decide, rfl⟩
    · exact ⟨7, by decide, rfl⟩
    · exact ⟨8, by decide, rfl⟩
theorem in_2 {c : Int} : inS 2 c ↔ nums c := by
  unfold nums
  rw [inS_l]
  show (∃ n : Nat, n < 11 ∧ (([43, 45, 42, 47, 37, 94, 118, 107, 60, 62, 61] : List Int32).getD n 0).toInt = c) ↔ _
  constructor
  · rintro ⟨n, h1, h2⟩
    rcases (show n = 0 ∨ n = 1 ∨ n = 2 ∨ n = 3 ∨ n = 4 ∨ n = 5 ∨ n = 6 ∨ n = 7 ∨ n = 8 ∨ n = 9 ∨ n = 10 by omega) with rfl | rfl | rfl | rfl | rfl | rfl | rfl | rfl | rfl | rfl | rfl
    · have h2 : (43 : Int) = c := h2; omega
    · have h2 : (45 : Int) = c := h2; omega
    · have h2 : (42 : Int) = c := h2; omega
    · have h2 : (47 : Int) = c := h2; omega
    · have h2 : (37 : Int) = c := h2; omega
    · have h2 : (94 : Int) = c := h2; omega
    · have h2 : (118 : Int) = c := h2; omega
    · have h2 : (107 : Int) = c := h2; omega
    · have h2 : (60 : Int) = c := h2; omega
    · have h2 : (62 : Int) = c := h2; omega
    · have h2 : (61 : Int) = c := h2; omega
  · rintro (rfl | rfl | rfl | rfl | rfl | rfl | rfl | rfl | rfl | rfl | rfl)
    · exact ⟨0, by decide, rfl⟩
    · exact ⟨1, by decide, rfl⟩
    · exact ⟨2, by decide, rfl⟩
    · exact ⟨3, by decide, rfl⟩
    · exact ⟨4, by decide, rfl⟩
    · exact ⟨5, by decide, rfl⟩
    · exact ⟨6, by decide, rfl⟩
    · exact ⟨7, by decide, rfl⟩
    · exact ⟨8, by decide, rfl⟩
    · exact ⟨9, by decide, rfl⟩
    · exact ⟨10, by decide, rfl⟩
theorem need_2s {c : Int} (h : inS 0 c) : need c = 2 := by unfold need; exact if_pos (in_0.mp h)
theorem need_1s {c : Int} (h : ¬ inS 0 c) (k : inS 1 c) : need c = 1 := by unfold need; rw [if_neg (fun z => h (in_0.mpr z))]; exact if_pos (in_1.mp k)
theorem need_0s {c : Int} (h : ¬ inS 0 c) (k : ¬ inS 1 c) : need c = 0 := by unfold need; rw [if_neg (fun z => h (in_0.mpr z))]; exact if_neg (fun z => k (in_1.mpr z))
theorem miss_2 {st : AS} {c : Int} (h : st.h < need c) : missA st c = -2 := by unfold missA; exact if_pos h
theorem miss_3 {st : AS} {c i : Int} (h : need c ≤ st.h) (hn : nums c) (h0 : st.h - need c ≤ i) (h1 : i < st.h) (h2 : (st.stk i).t = 1) : missA st c = -3 := by unfold missA; rw [if_neg (by omega)]; exact if_pos ⟨hn, i, h0, h1, h2⟩
theorem miss_0 {st : AS} {c : Int} (h : need c ≤ st.h) (hn : nums c → ∀ i, st.h - need c ≤ i → i < st.h → (st.stk i).t ≠ 1) : missA st c = 0 := by
  unfold missA
  rw [if_neg (by omega)]
  exact if_neg (fun ⟨z, i, x, y, w⟩ => hn z i x y w)
theorem miss_b {st : AS} {c : Int} : -3 ≤ missA st c ∧ missA st c ≤ 0 := by
  unfold missA
  split
  · decide
  · split <;> decide
