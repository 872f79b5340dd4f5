/-! a run of the class's -/
def tn0 (q : AS) : AS := (mkA q.inp q.il q.stk q.h q.reg q.k q.tx q.tl 0 q.pg q.pl)
theorem comC_m {st : AS} {cm lg m : Int} (hl : lg = tkL (srD st) (srE st)) (hc : cm = cmC st) (hm : m = missA (takA st lg) cm) (h0 : m ≠ 0) : comA st = (m, takA st lg) := by
  rw [com_e hl.symm hc.symm]
  unfold cmdA
  rw [← hm, if_pos h0]
theorem comC_p {st : AS} {cm lg m : Int} (hl : lg = tkL (srD st) (srE st)) (hc : cm = cmC st) (hm : m = missA (takA st lg) cm) (h0 : m = 0) : comA st = perfA (takA st lg) cm (srD st 1 - 97) (srD st) lg := by
  rw [com_e hl.symm hc.symm]
  unfold cmdA
  rw [← hm, if_neg (fun z => z h0)]
theorem lopC {st q : AS} {n r : Int} (hn : 0 < n) (h : isC st) (hc : comA st = (r, q)) : (r = 0 → lopA st n.toNat = lopA q (n - 1).toNat) ∧ (r ≠ 0 → lopA st n.toNat = (r, tn0 q)) := by
  have hl := lop_c hn h
  constructor
  · intro z
    rw [z] at hc
    have e := stp_0 hc
    rw [hl.1 (by rw [e]), e]
  · intro z
    have e := stp_f hc z
    rw [hl.2 (by rw [e]; exact z), e]
    rfl
theorem miss_n {st : AS} {c : Int} (h : missA st c = 0) : need c ≤ st.h ∧ (nums c → ∀ i, st.h - need c ≤ i → i < st.h → (st.stk i).t ≠ 1) := by
  have h1 : ¬ st.h < need c := fun z => by rw [miss_2 z] at h; omega
  refine ⟨by omega, fun hn i x y w => ?_⟩
  rw [miss_3 (by omega) hn x y w] at h
  omega
theorem CH_tt {si : Int → Nat} {vs : Nat → VS} {hg wk i : Int} {st : AS} (h : CH si vs hg wk st) (h0 : 0 ≤ i) (hi : i < hg) : (st.stk i).t = 0 ∨ (st.stk i).t = 1 := by
  obtain ⟨N, h1, -, h3, -⟩ := h.2.2.2.2.2 i h0 hi
  rw [h3]
  exact h1.1
theorem tkS_n {b : Nat} {tp : Nat → TS} {D : Int → Int} {rv : Value} {s e tr n : Int} {E : Int → Int} (h : tkS b tp D rv s e tr E n) : n ≤ 100 := by
  rcases h with ⟨-, -, h1, h2, -⟩ | ⟨-, -, h1, h2, -⟩
  · have := h2.1; omega
  · have := h2.1; omega
theorem ansC {b : Int} {st : AS} (h : b ≠ 0) : ansA (b, tn0 st) = b := ans_f h
