/-! what the class reckons -/
def rkC (r : Int) (q : Int × Th) (v : VS) : Prop := r = q.1 ∧ (r = 0 ∨ r < 0) ∧ (r = 0 → CV v q.2)
theorem rkC_e {r e : Int} {a : Th} {v : VS} (h : r = e) (he : e < 0) : rkC r (e, a) v := ⟨h, Or.inr (by omega), fun q => by omega⟩
theorem RES_f {r Z s t1 ng1 sc1 ln1 u1 : Int} {C F1 : Int → Int} (h : RES r Z s t1 ng1 sc1 ln1 F1 u1) (hs : 0 ≤ s ∧ s ≤ 40) : rkC r (fin Z s) (t1, ng1, sc1, ln1, u1, C, F1) := by
  unfold fin
  rcases h with ⟨h1, h2⟩ | ⟨h1, h2, h3, h4, h5, h6, h7, h8⟩
  · have h2 : PW 10 60 ≤ ab Z := h2
    rw [if_pos (Or.inl h2)]; exact ⟨h1, Or.inr (by omega), fun q => by omega⟩
  · rw [if_neg (by intro z; rcases z with z | z; exact absurd h2 (Int.not_lt.mpr z); omega)]
    refine ⟨h1, Or.inl h1, fun _ => ⟨ab Z, ⟨Or.inl h3, h7, by show 0 ≤ sc1 ∧ sc1 ≤ 40; omega, by show 0 ≤ ln1 ∧ ln1 ≤ 60; omega, fun j x y => ?_, fun _ => h4, fun z => ?_, fun z => ?_, h2⟩, h6, h3.symm, ?_, h5.symm, h4.symm, fun j x y => ?_⟩⟩
    · have y : j < ln1 := y
      omega
    · have z : t1 = 1 := z
      omega
    · have z := h8.mp z
      intro w
      have := ab_z.mp w
      omega
    · show Z = sg ng1 (ab Z)
      unfold sg ab
      split
      · have := h8.mp (by assumption); omega
      · rcases (show 0 ≤ Z ∨ Z < 0 by omega) with q | q
        · omega
        · exact absurd (h8.mpr q) (by assumption)
    · have y : j < 0 := y
      omega
theorem sg_m {g N P : Int} : sg g (N * P) = sg g N * P := by
  unfold sg
  split
  · rw [Int.neg_mul]
  · rfl
theorem sg_n {g h N : Int} (hg : g = 0 ∨ g = 1) (hh : (g = 0 ∧ h = 1) ∨ (g = 1 ∧ h = 0)) : sg h N = -sg g N := by
  unfold sg
  split <;> split <;> omega
/-- signs of a product -/
theorem sg_bz {g h x y n : Int} (hg : g = 0 ∨ g = 1) (hh : h = 0 ∨ h = 1) (hx : 0 ≤ x) (hy : 0 ≤ y) (h0 : x * y = 0 → n = 0) : sg (if g = h then 0 else 1) n = szn (sg g x * sg h y) n := by
  have hxy := Int.mul_nonneg hx hy
  unfold szn
  rcases hg with rfl | rfl <;> rcases hh with rfl | rfl
  · rw [if_pos rfl, sg_0 (by decide), sg_0 (by decide), sg_0 (by decide), if_neg (by omega)]
  · rw [if_neg (by decide), sg_1, sg_0 (by decide), sg_1, Int.mul_neg]
    split
    · rfl
    · rw [h0 (by omega)]; rfl
  · rw [if_neg (by decide), sg_1, sg_1, sg_0 (by decide), Int.neg_mul]
    split
    · rfl
    · rw [h0 (by omega)]; rfl
  · rw [if_pos rfl, sg_0 (by decide), sg_1, sg_1, Int.neg_mul_neg, if_neg (by omega)]
theorem sg_z {g x : Int} (hg : g = 0 ∨ g = 1) (hx : 0 ≤ x) (h1 : g = 1 → x ≠ 0) {n : Int} : sg g n = szn (sg g x) n := by
  unfold szn
  rcases hg with rfl | rfl
  · rw [sg_0 (by decide), sg_0 (by decide), if_neg (by omega)]
  · have := h1 rfl
    rw [sg_1, sg_1, if_pos (by omega)]
section CR
variable {tx ngx scx lnx ux ty ngy scy lny uy Nx Ny r ws t1 ng1 sc1 ln1 u1 : Int} {Cx Fx Cy Fy C F1 : Int → Int} {a b : Th}
theorem nx_e (hV : VV tx ngx scx lnx Cx Nx) (hW : WR Fx ux Nx) (h2 : a.v = sg ngx Nx) : 0 ≤ Nx ∧ ab a.v = Nx ∧ (ngx = 1 ↔ a.v < 0) ∧ (a.v = 0 ↔ Nx = 0) := by
  have h0 := (WR_bd hW).1
  have h1 := hV.2.1
  have h8 := hV.2.2.2.2.2.2.2.1
  rw [h2]
  refine ⟨h0, sg_abs h0, ?_, ?_⟩
  · unfold sg
    split <;> omega
  · unfold sg
    split <;> omega
theorem rkC_sum {sn w : Int} (hVx : VV tx ngx scx lnx Cx Nx) (hVy : VV ty ngy scy lny Cy Ny) (h2 : a.v = sg ngx Nx) (h3 : a.sc = scx) (k3 : b.sc = scy) (hw : w = sg sn Ny) (h : RES r (sg ngx (Nx * PW 10 (max scx scy - scx)) + sg sn (Ny * PW 10 (max scx scy - scy))) (max scx scy) t1 ng1 sc1 ln1 F1 u1) : rkC r (sumA a b w) (t1, ng1, sc1, ln1, u1, C, F1) := by
  unfold sumA
  rw [h2, h3, k3, hw]
  rw [sg_m, sg_m] at h
  have := hVx.2.2.1
  have := hVy.2.2.1
  exact RES_f h (by omega)
theorem rkC_mul (hVx : VV tx ngx scx lnx Cx Nx) (hWx : WR Fx ux Nx) (hVy : VV ty ngy scy lny Cy Ny) (hWy : WR Fy uy Ny) (h2 : a.v = sg ngx Nx) (h3 : a.sc = scx) (k2 : b.v = sg ngy Ny) (k3 : b.sc = scy) (hws : 0 ≤ ws ∧ ws ≤ 40) (h : RES r (sg (if ngx = ngy then 0 else 1) (Nx * Ny / PW 10 (scx + scy - min (scx + scy) (max ws (max scx scy))))) (min (scx + scy) (max ws (max scx scy))) t1 ng1 sc1 ln1 F1 u1) : rkC r (mulA ws a b) (t1, ng1, sc1, ln1, u1, C, F1) := by
  obtain ⟨x0, x1, -, -⟩ := nx_e hVx hWx h2
  obtain ⟨y0, y1, -, -⟩ := nx_e hVy hWy k2
  have g1 := hVx.2.2.1
  have g2 := hVy.2.2.1
  rw [sg_bz hVx.2.1 hVy.2.1 x0 y0 (fun z => by rw [z, Int.zero_ediv]), ← h2, ← k2] at h
  unfold mulA tq
  rw [ab_mul, x1, y1, h3, k3]
  exact RES_f h (by omega)
theorem rkC_div (hVx : VV tx ngx scx lnx Cx Nx) (hWx : WR Fx ux Nx) (hVy : VV ty ngy scy lny Cy Ny) (hWy : WR Fy uy Ny) (h2 : a.v = sg ngx Nx) (h3 : a.sc = scx) (k2 : b.v = sg ngy Ny) (k3 : b.sc = scy) (hws : 0 ≤ ws ∧ ws ≤ 40) (h : (Ny = 0 ∧ r = -5) ∨ (Ny ≠ 0 ∧ RES r (sg (if ngx = ngy then 0 else 1) (Nx * PW 10 (max (ws + scy - scx) 0) / (Ny * PW 10 (max (-(ws + scy - scx)) 0)))) ws t1 ng1 sc1 ln1 F1 u1)) : rkC r (divA ws a b) (t1, ng1, sc1, ln1, u1, C, F1) := by
  obtain ⟨x0, x1, -, -⟩ := nx_e hVx hWx h2
  obtain ⟨y0, y1, -, y3⟩ := nx_e hVy hWy k2
  unfold divA
  rcases h with ⟨z1, z2⟩ | ⟨z1, z2⟩
  · rw [if_pos (y3.mpr z1)]; exact rkC_e z2 (by decide)
  · rw [if_neg (fun q => z1 (y3.mp q))]
    rw [sg_bz hVx.2.1 hVy.2.1 x0 y0 (fun z => by rw [(Int.mul_eq_zero.mp z).resolve_right z1, Int.zero_mul, Int.zero_ediv]), ← h2, ← k2] at z2
    unfold qxA qyA
    rw [x1, y1, h3, k3, show max scx (ws + scy) - scx = max (ws + scy - scx) 0 by omega, show max scx (ws + scy) - (ws + scy) = max (-(ws + scy - scx)) 0 by omega]
    exact RES_f z2 hws
theorem rkC_mod (hVx : VV tx ngx scx lnx Cx Nx) (hWx : WR Fx ux Nx) (hVy : VV ty ngy scy lny Cy Ny) (hWy : WR Fy uy Ny) (h2 : a.v = sg ngx Nx) (h3 : a.sc = scx) (k2 : b.v = sg ngy Ny) (k3 : b.sc = scy) (hws : 0 ≤ ws ∧ ws ≤ 40) (h : (Ny = 0 ∧ r = -5) ∨ (Ny ≠ 0 ∧ 40 < max scx (ws + scy) ∧ r = -7) ∨ (Ny ≠ 0 ∧ max scx (ws + scy) ≤ 40 ∧ RES r (sg ngx (Nx * PW 10 (max (ws + scy - scx) 0) % (Ny * PW 10 (max (-(ws + scy - scx)) 0)))) (max scx (ws + scy)) t1 ng1 sc1 ln1 F1 u1)) : rkC r (modA ws a b) (t1, ng1, sc1, ln1, u1, C, F1) := by
  obtain ⟨x0, x1, -, -⟩ := nx_e hVx hWx h2
  obtain ⟨y0, y1, -, y3⟩ := nx_e hVy hWy k2
  have g1 := hVx.2.2.1
  unfold modA
  rcases h with ⟨z1, z2⟩ | ⟨z1, z2, z3⟩ | ⟨z1, z2, z3⟩
  · rw [if_pos (y3.mpr z1)]; exact rkC_e z2 (by decide)
  · rw [if_neg (fun q => z1 (y3.mp q)), if_pos (by rw [h3, k3]; exact z2)]; exact rkC_e z3 (by decide)
  · rw [if_neg (fun q => z1 (y3.mp q)), if_neg (by rw [h3, k3]; omega)]
    rw [sg_z hVx.2.1 x0 hVx.2.2.2.2.2.2.2.1, ← h2] at z3
    unfold qxA qyA
    rw [x1, y1, h3, k3, show max scx (ws + scy) - scx = max (ws + scy - scx) 0 by omega, show max scx (ws + scy) - (ws + scy) = max (-(ws + scy - scx)) 0 by omega]
    exact RES_f z3 (by omega)
theorem sg_neg2 {n : Int} {X : Int} (hV : VV tx ngx scx lnx Cx Nx) (hW : WR Fx ux Nx) (h2 : a.v = sg ngx Nx) : sg (if ngx = 1 ∧ n % 2 = 1 then 1 else 0) X = szn (if n % 2 = 1 then a.v else 1) X := by
  obtain ⟨-, -, x3, -⟩ := nx_e hV hW h2
  unfold szn
  by_cases q : n % 2 = 1
  · rw [if_pos q]
    by_cases w : ngx = 1
    · rw [if_pos ⟨w, q⟩, sg_1, if_pos (x3.mp w)]
    · rw [if_neg (fun z => w z.1), sg_0 (by decide), if_neg (fun z => w (x3.mpr z))]
  · rw [if_neg q, if_neg (fun z => q z.2), sg_0 (by decide), if_neg (by decide)]
theorem rkC_pow (hVx : VV tx ngx scx lnx Cx Nx) (hWx : WR Fx ux Nx) (hVy : VV ty ngy scy lny Cy Ny) (hWy : WR Fy uy Ny) (h2 : a.v = sg ngx Nx) (h3 : a.sc = scx) (k2 : b.v = sg ngy Ny) (k3 : b.sc = scy) (hws : 0 ≤ ws ∧ ws ≤ 40) (h : ((scy ≠ 0 ∨ 100 ≤ Ny) ∧ r = -4) ∨ (scy = 0 ∧ Ny < 100 ∧ ((ngy = 1 ∧ Nx = 0 ∧ r = -5) ∨ (¬ (ngy = 1 ∧ Nx = 0) ∧ (((200 < Ny * scx ∨ PW 10 200 ≤ PW Nx Ny) ∧ r = -7) ∨ (Ny * scx ≤ 200 ∧ PW Nx Ny < PW 10 200 ∧ ((ngy = 1 ∧ RES r (sg (if ngx = 1 ∧ Ny % 2 = 1 then 1 else 0) (PW 10 (Ny * scx + ws) / PW Nx Ny)) ws t1 ng1 sc1 ln1 F1 u1) ∨ (ngy = 0 ∧ RES r (sg (if ngx = 1 ∧ Ny % 2 = 1 then 1 else 0) (PW Nx Ny / PW 10 (Ny * scx - min (Ny * scx) (max ws scx)))) (min (Ny * scx) (max ws scx)) t1 ng1 sc1 ln1 F1 u1)))))))) : rkC r (powA ws a b) (t1, ng1, sc1, ln1, u1, C, F1) := by
  obtain ⟨x0, x1, -, x4⟩ := nx_e hVx hWx h2
  obtain ⟨y0, y1, y2, y3⟩ := nx_e hVy hWy k2
  have g1 := hVx.2.2.1
  have g2 := hVy.2.2.1
  have hm := Int.mul_nonneg y0 g1.1
  unfold powA
  rw [x1, y1, h3, k3]
  rcases h with ⟨z1, z2⟩ | ⟨z1, z2, h⟩
  · rw [if_pos (by omega)]; exact rkC_e z2 (by decide)
  · rw [if_neg (by omega)]
    rcases h with ⟨z3, z4, z5⟩ | ⟨z3, h⟩
    · rw [if_pos ⟨y2.mp z3, x4.mpr z4⟩]; exact rkC_e z5 (by decide)
    · rw [if_neg (fun q => z3 ⟨y2.mpr q.1, x4.mp q.2⟩)]
      rcases h with ⟨z4, z5⟩ | ⟨z4, z5, h⟩
      · rw [if_pos z4]; exact rkC_e z5 (by decide)
      · rw [if_neg (by intro z; rcases z with z | z; omega; exact absurd z5 (Int.not_lt.mpr z))]
        rcases h with ⟨z6, z7⟩ | ⟨z6, z7⟩
        · rw [sg_neg2 (a := a) hVx hWx h2] at z7
          rw [if_pos (y2.mp z6)]; exact RES_f z7 hws
        · rw [sg_neg2 (a := a) hVx hWx h2] at z7
          rw [if_neg (fun q => by have := y2.mpr q; omega)]
          exact RES_f z7 (by omega)
theorem rkC_roo (hVx : VV tx ngx scx lnx Cx Nx) (hWx : WR Fx ux Nx) (h2 : a.v = sg ngx Nx) (h3 : a.sc = scx) (hws : 0 ≤ ws ∧ ws ≤ 40) (h : (ngx = 1 ∧ r = -6) ∨ (ngx = 0 ∧ ∃ rt, isq rt (Nx * PW 10 (2 * max ws scx - scx)) ∧ RES r (sg 0 rt) (max ws scx) t1 ng1 sc1 ln1 F1 u1)) : rkC r (rooA ws a) (t1, ng1, sc1, ln1, u1, C, F1) := by
  obtain ⟨x0, x1, x3, -⟩ := nx_e hVx hWx h2
  have g1 := hVx.2.2.1
  unfold rooA
  rcases h with ⟨z1, z2⟩ | ⟨z1, rt, z2, z3⟩
  · rw [if_pos (x3.mp z1)]; exact rkC_e z2 (by decide)
  · rw [if_neg (fun q => by have := x3.mpr q; omega)]
    have e : a.v = Nx := by rw [h2, z1]; exact sg_0 (by decide)
    rw [sg_0 (by decide)] at z3
    rw [e, h3, rtI_e z2]
    exact RES_f z3 (by omega)
end CR
theorem calcC_f {st : AS} {c r : Int} {v : VS} (h : rkC r (rkA c st.k (st.stk (st.h - 2)) (st.stk (st.h - 1))) v) (hb : r ≠ 0) : calcA st c = (r, st) := by
  unfold calcA
  rw [← h.1, if_neg hb]
theorem calcC_0 {si : Int → Nat} {vs : Nat → VS} {hg wk : Int} {st : AS} {c r : Int} {v v1 : VS} (h : rkC r (rkA c st.k (st.stk (st.h - 2)) (st.stk (st.h - 1))) v) (hb : r = 0) (hC : CH si vs hg wk st) (hh : 2 ≤ hg) (h1 : CV v1 (rkA c st.k (st.stk (st.h - 2)) (st.stk (st.h - 1))).2) : (calcA st c).1 = 0 ∧ CH si (upF vs (si (hg - 2)) v1) (hg - 1) wk (calcA st c).2 := by
  have e := hC.1
  unfold calcA
  rw [← h.1, if_pos hb]
  refine ⟨rfl, ?_⟩
  have h2 := CH_set hC (i0 := hg - 2) (h1 := hg - 1) h1 ⟨by omega, by omega⟩ (by omega)
  refine CH_c h2 ?_ rfl rfl ?_
  · show st.h - 1 = hg - 1
    omega
  · show upT st.stk (st.h - 2) _ = upT st.stk (hg - 2) _
    rw [e.1]
theorem sqrC_f {st : AS} {r : Int} {v : VS} (h : rkC r (rooA st.k (st.stk (st.h - 1))) v) (hb : r ≠ 0) : sqrtA st = (r, st) := by
  unfold sqrtA
  rw [← h.1, if_neg hb]
theorem sqrC_0 {si : Int → Nat} {vs : Nat → VS} {hg wk : Int} {st : AS} {r : Int} {v v1 : VS} (h : rkC r (rooA st.k (st.stk (st.h - 1))) v) (hb : r = 0) (hC : CH si vs hg wk st) (hh : 1 ≤ hg) (h1 : CV v1 (rooA st.k (st.stk (st.h - 1))).2) : (sqrtA st).1 = 0 ∧ CH si (upF vs (si (hg - 1)) v1) hg wk (sqrtA st).2 := by
  have e := hC.1
  unfold sqrtA
  rw [← h.1, if_pos hb]
  refine ⟨rfl, ?_⟩
  have h2 := CH_set hC (i0 := hg - 1) (h1 := hg) h1 ⟨by omega, by omega⟩ (Int.le_refl hg)
  refine CH_c h2 ?_ rfl rfl ?_
  · show st.h = hg
    omega
  · show upT st.stk (st.h - 1) _ = upT st.stk (hg - 1) _
    rw [e.1]
