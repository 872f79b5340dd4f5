theorem dAr_finish_0 : decode prog_2_method_12_code 0 = .ok (.aload_n 1, 1) := by decide +kernel
theorem dAr_finish_1 : decode prog_2_method_12_code 1 = .ok (.invokevirtual 91, 3) := by decide +kernel
theorem dAr_finish_4 : decode prog_2_method_12_code 4 = .ok (.bipush 60, 2) := by decide +kernel
theorem dAr_finish_6 : decode prog_2_method_12_code 6 = .ok (.if_icmp .le 6, 3) := by decide +kernel
theorem dAr_finish_9 : decode prog_2_method_12_code 9 = .ok (.bipush (-7), 2) := by decide +kernel
theorem dAr_finish_11 : decode prog_2_method_12_code 11 = .ok (.ireturn, 1) := by decide +kernel
theorem dAr_finish_12 : decode prog_2_method_12_code 12 = .ok (.aload_n 0, 1) := by decide +kernel
theorem dAr_finish_13 : decode prog_2_method_12_code 13 = .ok (.getfield 27, 3) := by decide +kernel
theorem dAr_finish_16 : decode prog_2_method_12_code 16 = .ok (.aload_n 1, 1) := by decide +kernel
theorem dAr_finish_17 : decode prog_2_method_12_code 17 = .ok (.iload_n 2, 1) := by decide +kernel
theorem dAr_finish_18 : decode prog_2_method_12_code 18 = .ok (.iload_n 3, 1) := by decide +kernel
theorem dAr_finish_19 : decode prog_2_method_12_code 19 = .ok (.invokevirtual 117, 3) := by decide +kernel
theorem dAr_finish_22 : decode prog_2_method_12_code 22 = .ok (.iconst 0, 1) := by decide +kernel
theorem dAr_finish_23 : decode prog_2_method_12_code 23 = .ok (.ireturn, 1) := by decide +kernel
abbrev qAr_finish (dC : Nat → ClassId) (dI : Nat → Nat → Nat) (dA : Nat → ClassId) (dS : Nat → Nat) (ar : Nat) (la : Nat) (ra : Nat) (sa : Nat) (qa : Nat) (xR : Nat) (wR : Nat) (crR : Nat) (tR : Int) (ngR : Int) (scR : Int) (CR : Int → Int) (lnR : Int) (gR : Nat) (FR : Int → Int) (uR : Int) (a : Nat) (ga : Nat) (Fa : Int → Int) (ua : Int) (M : Int) (bz : Int) (isc : Int) (A : Nat → Prop) : Array Value → State → Outcome → State → Prop := QI (dC, dI) vwCl (tyA dA) (fun (r : Int) (v_ : Int × Int × Int × Int × (Int → Int) × Int) => RES r (sg bz M) isc v_.1 v_.2.1 v_.2.2.1 v_.2.2.2.1 v_.2.2.2.2.1 v_.2.2.2.2.2) (fun (v_ : Int × Int × Int × Int × (Int → Int) × Int) => wAr dA ar xR la ra sa qa (wVa dA xR wR crR v_.1 v_.2.1 v_.2.2.1 CR v_.2.2.2.1 (wWh dA wR gR v_.2.2.2.2.1 v_.2.2.2.2.2 (wWh dA a ga Fa ua [])))) A
abbrev rmAr_finish : Room := { frames := 3, cells := 0, slots := 0, locals := 104 }
set_option maxRecDepth 100000 in
set_option maxHeartbeats 1000000 in
theorem cAr_finish (l : Launch) (dC : Nat → ClassId) (dI : Nat → Nat → Nat) (dA : Nat → ClassId) (dS : Nat → Nat) (ar : Nat) (la : Nat) (ra : Nat) (sa : Nat) (qa : Nat) (xR : Nat) (wR : Nat) (crR : Nat) (tR : Int) (ngR : Int) (scR : Int) (CR : Int → Int) (lnR : Int) (gR : Nat) (FR : Int → Int) (uR : Int) (a : Nat) (ga : Nat) (Fa : Int → Int) (ua : Int) (M : Int) (bz : Int) (isc : Int) (hW : WR Fa ua M) (hbz : bz = 0 ∨ bz = 1) (sz : Nat) : Met l yAr_finish wsAr_finish rmAr_finish (PC (dC, dI) vwCl (tyA dA) (XC dS) [.ref ar, .ref a, .int (iI bz), .int (iI isc)] (wAr dA ar xR la ra sa qa (wVa dA xR wR crR tR ngR scR CR lnR (wWh dA wR gR FR uR (wWh dA a ga Fa ua [])))) sz) (qAr_finish dC dI dA dS ar la ra sa qa xR wR crR tR ngR scR CR lnR gR FR uR a ga Fa ua M bz isc (va_A (wAr dA ar xR la ra sa qa (wVa dA xR wR crR tR ngR scR CR lnR (wWh dA wR gR FR uR (wWh dA a ga Fa ua [])))) sz)) 0 0 (va_A (wAr dA ar xR la ra sa qa (wVa dA xR wR crR tR ngR scR CR lnR (wWh dA wR gR FR uR (wWh dA a ga Fa ua [])))) sz) := by
  refine met_of (cc := prog_2_method_12_code) (maxL := 4) (ret := (some .int)) (Qc := qAr_finish dC dI dA dS ar la ra sa qa xR wR crR tR ngR scR CR lnR gR FR uR a ga Fa ua M bz isc) (XC_ok dS) (by decide) rfl (Nat.le_of_ble_eq_true rfl) ?_
  intro p e s m below meth c ls A hx hb hr hml hown hts hlocks hnm hK hP hD hA hX hS hl
  have hl : lv_has ls 4 [(0, .ref ar), (1, .ref a), (2, .int (iI bz)), (3, .int (iI isc))] := hl
  have hown : s.vm.findClass "MacroReckoner$Arithmetic" = some m.cls := hown
  obtain ⟨H, hH⟩ : ∃ H : Heap, H = s.heap := ⟨_, rfl⟩
  obtain ⟨locs, hlo⟩ : ∃ L : List Loc, L = [] := ⟨_, rfl⟩
  have hP : va_P (dC, dI) vwCl (wAr dA ar xR la ra sa qa (wVa dA xR wR crR tR ngR scR CR lnR (wWh dA wR gR FR uR (wWh dA a ga Fa ua [])))) H := hH ▸ hP
  have hS : va_S A s.heap H locs := by rw [hH, hlo]; exact hS
  suffices hgo : W p l e rmAr_finish s m [.ref ar, .ref a, .int (iI bz), .int (iI isc)].toArray below meth c H locs 0 0 (MQ below (qAr_finish dC dI dA dS ar la ra sa qa xR wR crR tR ngR scR CR lnR gR FR uR a ga Fa ua M bz isc A) [.ref ar, .ref a, .int (iI bz), .int (iI isc)].toArray s 0 0 A) (F0 m 0 ls []) by rw [hH, hlo] at hgo; exact hgo
  clear hH hlo
  refine lv_aload_n hx hb dAr_finish_0 rfl (lv_at hl 1 rfl) ?_
  refine cv_i (va_runV (C := "MacroReckoner$Whole") (As := []) (rest := []) ⟨hx, hb, hml, hown, hts⟩ (cWh_size l dC dI dA dS a ga Fa ua M (by exact hW) H.size) (cwV 0 hts (gdV wt3_87 wt3_31 wt3_32 wt1_5 wt3_33) rfl rfl rfl ⟨rfl, by decide, by decide, by decide +kernel⟩ ⟨by decide, by decide⟩) (preV (q := ("MacroReckoner$Whole", TWh, 2)) hK hP hD hS hA (XC_ok dS) hX [5, 6] rfl rfl 0 rfl rfl) rfl rfl hl.1 rfl (lv_room (Nat.le_of_ble_eq_true rfl)) dAr_finish_1 ⟨Nat.zero_le _, Nat.zero_le _⟩) hP hD hS hA [5, 6] [0, 1, 2, 3, 4] rfl (fun v_ => wAr dA ar xR la ra sa qa (wVa dA xR wR crR tR ngR scR CR lnR (wWh dA wR gR FR uR (wWh dA a ga Fa ua [])))) (fun _ => rfl) (fun _ => rfl) (fun _ => rfl) (fun _ => rfl) (fun r1 u_ H locs hq1 hP hD hS => ?_)
  have hP : va_P (dC, dI) vwCl (wAr dA ar xR la ra sa qa (wVa dA xR wR crR tR ngR scR CR lnR (wWh dA wR gR FR uR (wWh dA a ga Fa ua [])))) H := hP
  have hD : va_D A (wAr dA ar xR la ra sa qa (wVa dA xR wR crR tR ngR scR CR lnR (wWh dA wR gR FR uR (wWh dA a ga Fa ua [])))) := hD
  have hq1 : DL M r1 := hq1
  have hdl := WR_dl hW hq1
  have hM0 := (WR_bd hW).1
  refine lv_bipush (v := iI 60) hx hb dAr_finish_4 (by decide) ?_
  refine iv_icmp_le (tgt := 12) hx hb dAr_finish_6 (by decide) ⟨by omega, by omega⟩ ⟨by decide, by decide⟩ (fun hc6 => ?_) (fun hc6 => ?_)
  · refine lv_aload_n hx hb dAr_finish_12 rfl (lv_at hl 0 rfl) ?_
    refine va_get (D := (dC, dI)) (ci := 0) (v := .ref xR) (C := "MacroReckoner$Arithmetic") (T := TAr) (N := 5) hx hb hts inAr hown hK hP 0 rfl rfl 0 (by decide) (hts _ wt1_142) (fun _ h9 => h9) rfl dAr_finish_13 ?_
    refine lv_aload_n hx hb dAr_finish_16 rfl (lv_at hl 1 rfl) ?_
    refine lv_iload_n hx hb dAr_finish_17 rfl (lv_at hl 2 rfl) ?_
    refine lv_iload_n hx hb dAr_finish_18 rfl (lv_at hl 3 rfl) ?_
    refine cv_v (va_runV (C := "MacroReckoner$Value") (As := [.ref a, .int (iI bz), .int (iI isc)]) (rest := []) ⟨hx, hb, hml, hown, hts⟩ (cVa_becomeNumber l dC dI dA xR wR crR tR ngR scR CR lnR gR FR uR a ga Fa ua M bz isc (by exact hW) (by exact hbz) H.size) (cwV 3 hts (gdV wt3_88 wt3_89 wt3_90 wt1_4 wt3_91) rfl rfl rfl ⟨rfl, by decide, by decide, by decide +kernel⟩ ⟨by decide, by decide⟩) (preV (q := ("MacroReckoner$Value", TVa, 6)) hK hP hD hS hA XN_ok trivial [1, 2, 3, 4, 5, 6] rfl rfl 0 rfl rfl) rfl rfl hl.1 rfl (lv_room (Nat.le_of_ble_eq_true rfl)) dAr_finish_19 ⟨Nat.zero_le _, Nat.zero_le _⟩) hP hD hS hA [1, 2, 3, 4, 5, 6] [0] rfl (fun v_ => wAr dA ar xR la ra sa qa (wVa dA xR wR crR 0 v_.2 isc CR 0 (wWh dA wR gR v_.1 ua (wWh dA a ga Fa ua [])))) (fun _ => rfl) (fun _ => rfl) (fun _ => rfl) (fun _ => rfl) (fun u_ H locs hq19 hP hD hS => ?_)
    obtain ⟨F9, ng9⟩ := u_
    have hP : va_P (dC, dI) vwCl (wAr dA ar xR la ra sa qa (wVa dA xR wR crR 0 ng9 isc CR 0 (wWh dA wR gR F9 ua (wWh dA a ga Fa ua [])))) H := hP
    have hD : va_D A (wAr dA ar xR la ra sa qa (wVa dA xR wR crR 0 ng9 isc CR 0 (wWh dA wR gR F9 ua (wWh dA a ga Fa ua [])))) := hD
    have hq19 : WR F9 ua M ∧ (ng9 = 0 ∨ ng9 = 1) ∧ (ng9 = 1 ↔ bz = 1 ∧ M ≠ 0) := hq19
    refine lv_iconst (v := iI 0) hx hb dAr_finish_22 rfl ?_
    exact rt_i hx hb hr hlocks hK hS dAr_finish_23 (0, ng9, isc, 0, F9, ua) hP hD (show RES 0 (sg bz M) isc 0 ng9 isc 0 F9 ua from by exact RES_0 hM0 hbz (DL_lt hq1 (by omega)) hq19.1 hq19.2.1 hq19.2.2)
  · refine lv_bipush (v := iI (-7)) hx hb dAr_finish_9 (by decide) ?_
    exact rt_i hx hb hr hlocks hK hS dAr_finish_11 (tR, ngR, scR, lnR, FR, uR) hP hD (show RES (-7) (sg bz M) isc tR ngR scR lnR FR uR from by exact RES_7 hM0 (DL_ge hq1 (by decide) (by omega)))

theorem dAr_level_0 : decode prog_2_method_9_code 0 = .ok (.aload_n 1, 1) := by decide +kernel
theorem dAr_level_1 : decode prog_2_method_9_code 1 = .ok (.getfield 56, 3) := by decide +kernel
theorem dAr_level_4 : decode prog_2_method_9_code 4 = .ok (.aload_n 2, 1) := by decide +kernel
theorem dAr_level_5 : decode prog_2_method_9_code 5 = .ok (.getfield 56, 3) := by decide +kernel
theorem dAr_level_8 : decode prog_2_method_9_code 8 = .ok (.invokestatic 60, 3) := by decide +kernel
theorem dAr_level_11 : decode prog_2_method_9_code 11 = .ok (.istore_n 3, 1) := by decide +kernel
theorem dAr_level_12 : decode prog_2_method_9_code 12 = .ok (.aload_n 0, 1) := by decide +kernel
theorem dAr_level_13 : decode prog_2_method_9_code 13 = .ok (.getfield 12, 3) := by decide +kernel
theorem dAr_level_16 : decode prog_2_method_9_code 16 = .ok (.aload_n 1, 1) := by decide +kernel
theorem dAr_level_17 : decode prog_2_method_9_code 17 = .ok (.getfield 69, 3) := by decide +kernel
theorem dAr_level_20 : decode prog_2_method_9_code 20 = .ok (.invokevirtual 105, 3) := by decide +kernel
theorem dAr_level_23 : decode prog_2_method_9_code 23 = .ok (.aload_n 0, 1) := by decide +kernel
theorem dAr_level_24 : decode prog_2_method_9_code 24 = .ok (.getfield 12, 3) := by decide +kernel
theorem dAr_level_27 : decode prog_2_method_9_code 27 = .ok (.iload_n 3, 1) := by decide +kernel
theorem dAr_level_28 : decode prog_2_method_9_code 28 = .ok (.aload_n 1, 1) := by decide +kernel
theorem dAr_level_29 : decode prog_2_method_9_code 29 = .ok (.getfield 56, 3) := by decide +kernel
theorem dAr_level_32 : decode prog_2_method_9_code 32 = .ok (.isub, 1) := by decide +kernel
theorem dAr_level_33 : decode prog_2_method_9_code 33 = .ok (.invokevirtual 108, 3) := by decide +kernel
theorem dAr_level_36 : decode prog_2_method_9_code 36 = .ok (.aload_n 0, 1) := by decide +kernel
theorem dAr_level_37 : decode prog_2_method_9_code 37 = .ok (.getfield 18, 3) := by decide +kernel
theorem dAr_level_40 : decode prog_2_method_9_code 40 = .ok (.aload_n 2, 1) := by decide +kernel
theorem dAr_level_41 : decode prog_2_method_9_code 41 = .ok (.getfield 69, 3) := by decide +kernel
theorem dAr_level_44 : decode prog_2_method_9_code 44 = .ok (.invokevirtual 105, 3) := by decide +kernel
theorem dAr_level_47 : decode prog_2_method_9_code 47 = .ok (.aload_n 0, 1) := by decide +kernel
theorem dAr_level_48 : decode prog_2_method_9_code 48 = .ok (.getfield 18, 3) := by decide +kernel
theorem dAr_level_51 : decode prog_2_method_9_code 51 = .ok (.iload_n 3, 1) := by decide +kernel
theorem dAr_level_52 : decode prog_2_method_9_code 52 = .ok (.aload_n 2, 1) := by decide +kernel
theorem dAr_level_53 : decode prog_2_method_9_code 53 = .ok (.getfield 56, 3) := by decide +kernel
theorem dAr_level_56 : decode prog_2_method_9_code 56 = .ok (.isub, 1) := by decide +kernel
theorem dAr_level_57 : decode prog_2_method_9_code 57 = .ok (.invokevirtual 108, 3) := by decide +kernel
theorem dAr_level_60 : decode prog_2_method_9_code 60 = .ok (.iload_n 3, 1) := by decide +kernel
theorem dAr_level_61 : decode prog_2_method_9_code 61 = .ok (.ireturn, 1) := by decide +kernel
abbrev qAr_level (dC : Nat → ClassId) (dI : Nat → Nat → Nat) (dA : Nat → ClassId) (dS : Nat → Nat) (ar : Nat) (la : Nat) (ra : Nat) (sa : Nat) (qa : Nat) (xR : Nat) (lg : Nat) (LF : Int → Int) (lu : Int) (rg : Nat) (RF : Int → Int) (ru : Int) (xx : Nat) (wx : Nat) (crx : Nat) (tx : Int) (ngx : Int) (scx : Int) (Cx : Int → Int) (lnx : Int) (gx : Nat) (Fx : Int → Int) (ux : Int) (Nx : Int) (xy : Nat) (wy : Nat) (cry : Nat) (ty : Int) (ngy : Int) (scy : Int) (Cy : Int → Int) (lny : Int) (gy : Nat) (Fy : Int → Int) (uy : Int) (Ny : Int) (A : Nat → Prop) : Array Value → State → Outcome → State → Prop := QI (dC, dI) vwCl (tyA dA) (fun (r : Int) (v_ : (Int → Int) × Int × (Int → Int) × Int) => r = max scx scy ∧ WR v_.1 v_.2.1 (Nx * PW 10 (max scx scy - scx)) ∧ WR v_.2.2.1 v_.2.2.2 (Ny * PW 10 (max scx scy - scy))) (fun (v_ : (Int → Int) × Int × (Int → Int) × Int) => wAr dA ar xR la ra sa qa (wWh dA la lg v_.1 v_.2.1 (wWh dA ra rg v_.2.2.1 v_.2.2.2 (wVa dA xx wx crx tx ngx scx Cx lnx (wWh dA wx gx Fx ux (wVa dA xy wy cry ty ngy scy Cy lny (wWh dA wy gy Fy uy []))))))) A
abbrev rmAr_level : Room := { frames := 2, cells := 0, slots := 0, locals := 83 }
set_option maxRecDepth 100000 in
set_option maxHeartbeats 1000000 in
theorem cAr_level (l : Launch) (dC : Nat → ClassId) (dI : Nat → Nat → Nat) (dA : Nat → ClassId) (dS : Nat → Nat) (ar : Nat) (la : Nat) (ra : Nat) (sa : Nat) (qa : Nat) (xR : Nat) (lg : Nat) (LF : Int → Int) (lu : Int) (rg : Nat) (RF : Int → Int) (ru : Int) (xx : Nat) (wx : Nat) (crx : Nat) (tx : Int) (ngx : Int) (scx : Int) (Cx : Int → Int) (lnx : Int) (gx : Nat) (Fx : Int → Int) (ux : Int) (Nx : Int) (xy : Nat) (wy : Nat) (cry : Nat) (ty : Int) (ngy : Int) (scy : Int) (Cy : Int → Int) (lny : Int) (gy : Nat) (Fy : Int → Int) (uy : Int) (Ny : Int) (hVx : VV tx ngx scx lnx Cx Nx) (hWx : WR Fx ux Nx) (hVy : VV ty ngy scy lny Cy Ny) (hWy : WR Fy uy Ny) (sz : Nat) : Met l yAr_level wsAr_level rmAr_level (PC (dC, dI) vwCl (tyA dA) (XC dS) [.ref ar, .ref xx, .ref xy] (wAr dA ar xR la ra sa qa (wWh dA la lg LF lu (wWh dA ra rg RF ru (wVa dA xx wx crx tx ngx scx Cx lnx (wWh dA wx gx Fx ux (wVa dA xy wy cry ty ngy scy Cy lny (wWh dA wy gy Fy uy []))))))) sz) (qAr_level dC dI dA dS ar la ra sa qa xR lg LF lu rg RF ru xx wx crx tx ngx scx Cx lnx gx Fx ux Nx xy wy cry ty ngy scy Cy lny gy Fy uy Ny (va_A (wAr dA ar xR la ra sa qa (wWh dA la lg LF lu (wWh dA ra rg RF ru (wVa dA xx wx crx tx ngx scx Cx lnx (wWh dA wx gx Fx ux (wVa dA xy wy cry ty ngy scy Cy lny (wWh dA wy gy Fy uy []))))))) sz)) 0 0 (va_A (wAr dA ar xR la ra sa qa (wWh dA la lg LF lu (wWh dA ra rg RF ru (wVa dA xx wx crx tx ngx scx Cx lnx (wWh dA wx gx Fx ux (wVa dA xy wy cry ty ngy scy Cy lny (wWh dA wy gy Fy uy []))))))) sz) := by
  refine met_of (cc := prog_2_method_9_code) (maxL := 4) (ret := (some .int)) (Qc := qAr_level dC dI dA dS ar la ra sa qa xR lg LF lu rg RF ru xx wx crx tx ngx scx Cx lnx gx Fx ux Nx xy wy cry ty ngy scy Cy lny gy Fy uy Ny) (XC_ok dS) (by decide) rfl (Nat.le_of_ble_eq_true rfl) ?_
  intro p e s m below meth c ls A hx hb hr hml hown hts hlocks hnm hK hP hD hA hX hS hl
  have hl : lv_has ls 4 [(0, .ref ar), (1, .ref xx), (2, .ref xy)] := hl
  have hown : s.vm.findClass "MacroReckoner$Arithmetic" = some m.cls := hown
  obtain ⟨H, hH⟩ : ∃ H : Heap, H = s.heap := ⟨_, rfl⟩
  obtain ⟨locs, hlo⟩ : ∃ L : List Loc, L = [] := ⟨_, rfl⟩
  have hP : va_P (dC, dI) vwCl (wAr dA ar xR la ra sa qa (wWh dA la lg LF lu (wWh dA ra rg RF ru (wVa dA xx wx crx tx ngx scx Cx lnx (wWh dA wx gx Fx ux (wVa dA xy wy cry ty ngy scy Cy lny (wWh dA wy gy Fy uy []))))))) H := hH ▸ hP
  have hS : va_S A s.heap H locs := by rw [hH, hlo]; exact hS
  suffices hgo : W p l e rmAr_level s m [.ref ar, .ref xx, .ref xy].toArray below meth c H locs 0 0 (MQ below (qAr_level dC dI dA dS ar la ra sa qa xR lg LF lu rg RF ru xx wx crx tx ngx scx Cx lnx gx Fx ux Nx xy wy cry ty ngy scy Cy lny gy Fy uy Ny A) [.ref ar, .ref xx, .ref xy].toArray s 0 0 A) (F0 m 0 ls []) by rw [hH, hlo] at hgo; exact hgo
  clear hH hlo
  obtain ⟨htx, hngx, hscx, hlnx, hchx, hx1, hx2, hx3, hx4⟩ := hVx
  have hNx0 := (WR_bd hWx).1
  obtain ⟨hty, hngy, hscy, hlny, hchy, hy1, hy2, hy3, hy4⟩ := hVy
  have hNy0 := (WR_bd hWy).1
  have hbx := w60 hNx0 hx4 (show 0 ≤ max scx scy - scx by omega) (by omega)
  have hby := w60 hNy0 hy4 (show 0 ≤ max scx scy - scy by omega) (by omega)
  refine lv_aload_n hx hb dAr_level_0 rfl (lv_at hl 1 rfl) ?_
  refine va_getN (D := (dC, dI)) (ci := 4) (v := .int (iI scx)) (C := "MacroReckoner$Value") (T := TVa) (N := 6) hx hb hts inVa hown hK hP 5 rfl rfl 3 (by decide) (va_Nw.use rfl (hX.1 ("MacroReckoner$Arithmetic", 56, "MacroReckoner$Value", "scale", "I", "MacroReckoner") (List.mem_of_getElem? (i := 16) rfl))) (fun _ h9 => h9) rfl dAr_level_1 ?_
  refine lv_aload_n hx hb dAr_level_4 rfl (lv_at hl 2 rfl) ?_
  refine va_getN (D := (dC, dI)) (ci := 4) (v := .int (iI scy)) (C := "MacroReckoner$Value") (T := TVa) (N := 6) hx hb hts inVa hown hK hP 9 rfl rfl 3 (by decide) (va_Nw.use rfl (hX.1 ("MacroReckoner$Arithmetic", 56, "MacroReckoner$Value", "scale", "I", "MacroReckoner") (List.mem_of_getElem? (i := 16) rfl))) (fun _ h9 => h9) rfl dAr_level_5 ?_
  refine iv_mmax hx hb (hml.trans hl.1.symm) hown (hts _ wt3_70) (hts _ wt2_178) (hts _ wt1_16) (hts _ wt2_179) (by decide) (Nat.le_of_ble_eq_true rfl) (Nat.zero_le _) (Nat.zero_le _) dAr_level_8 ⟨by omega, by omega⟩ ⟨by omega, by omega⟩ ?_
  refine lv_istore_n (lv' := [(3, .int (iI (max scx scy))), (0, .ref ar), (1, .ref xx), (2, .ref xy)]) hx hb dAr_level_11 rfl hl (by decide) rfl (fun ls hl => ?_)
  refine lv_aload_n hx hb dAr_level_12 rfl (lv_at hl 1 rfl) ?_
  refine va_get (D := (dC, dI)) (ci := 0) (v := .ref la) (C := "MacroReckoner$Arithmetic") (T := TAr) (N := 5) hx hb hts inAr hown hK hP 0 rfl rfl 1 (by decide) (hts _ wt1_143) (fun _ h9 => h9) rfl dAr_level_13 ?_
  refine lv_aload_n hx hb dAr_level_16 rfl (lv_at hl 2 rfl) ?_
  refine va_getN (D := (dC, dI)) (ci := 4) (v := .ref wx) (C := "MacroReckoner$Value") (T := TVa) (N := 6) hx hb hts inVa hown hK hP 5 rfl rfl 1 (by decide) (va_Nw.use rfl (hX.1 ("MacroReckoner$Arithmetic", 69, "MacroReckoner$Value", "whole", "LMacroReckoner$Whole;", "MacroReckoner") (List.mem_of_getElem? (i := 10) rfl))) (fun _ h9 => h9) rfl dAr_level_17 ?_
  refine cv_v (va_runV (C := "MacroReckoner$Whole") (As := [.ref wx]) (rest := []) ⟨hx, hb, hml, hown, hts⟩ (cWh_become l dC dI dA la lg LF lu wx gx Fx ux Nx (by exact hWx) H.size) (cwV 1 hts (gdV wt3_71 wt3_45 wt3_46 wt1_5 wt3_47) rfl rfl rfl ⟨rfl, by decide, by decide, by decide +kernel⟩ ⟨by decide, by decide⟩) (preV (q := ("MacroReckoner$Whole", TWh, 2)) hK hP hD hS hA XN_ok trivial [1, 2, 7, 8] rfl rfl 0 rfl rfl) rfl rfl hl.1 rfl (lv_room (Nat.le_of_ble_eq_true rfl)) dAr_level_20 ⟨Nat.zero_le _, Nat.zero_le _⟩) hP hD hS hA [1, 2, 7, 8] [0, 3, 4, 5, 6, 9, 10, 11, 12] rfl (fun v_ => wAr dA ar xR la ra sa qa (wWh dA la lg v_ ux (wWh dA ra rg RF ru (wVa dA xx wx crx tx ngx scx Cx lnx (wWh dA wx gx Fx ux (wVa dA xy wy cry ty ngy scy Cy lny (wWh dA wy gy Fy uy []))))))) (fun _ => rfl) (fun _ => rfl) (fun _ => rfl) (fun _ => rfl) (fun u_ H locs hq20 hP hD hS => ?_)
  obtain ⟨LA, rfl⟩ : ∃ z, z = u_ := ⟨_, rfl⟩
  have hP : va_P (dC, dI) vwCl (wAr dA ar xR la ra sa qa (wWh dA la lg LA ux (wWh dA ra rg RF ru (wVa dA xx wx crx tx ngx scx Cx lnx (wWh dA wx gx Fx ux (wVa dA xy wy cry ty ngy scy Cy lny (wWh dA wy gy Fy uy []))))))) H := hP
  have hD : va_D A (wAr dA ar xR la ra sa qa (wWh dA la lg LA ux (wWh dA ra rg RF ru (wVa dA xx wx crx tx ngx scx Cx lnx (wWh dA wx gx Fx ux (wVa dA xy wy cry ty ngy scy Cy lny (wWh dA wy gy Fy uy []))))))) := hD
  have hq20 : WR LA ux Nx := hq20
  refine lv_aload_n hx hb dAr_level_23 rfl (lv_at hl 1 rfl) ?_
  refine va_get (D := (dC, dI)) (ci := 0) (v := .ref la) (C := "MacroReckoner$Arithmetic") (T := TAr) (N := 5) hx hb hts inAr hown hK hP 0 rfl rfl 1 (by decide) (hts _ wt1_143) (fun _ h9 => h9) rfl dAr_level_24 ?_
  refine lv_iload_n hx hb dAr_level_27 rfl (lv_at hl 0 rfl) ?_
  refine lv_aload_n hx hb dAr_level_28 rfl (lv_at hl 2 rfl) ?_
  refine va_getN (D := (dC, dI)) (ci := 4) (v := .int (iI scx)) (C := "MacroReckoner$Value") (T := TVa) (N := 6) hx hb hts inVa hown hK hP 5 rfl rfl 3 (by decide) (va_Nw.use rfl (hX.1 ("MacroReckoner$Arithmetic", 56, "MacroReckoner$Value", "scale", "I", "MacroReckoner") (List.mem_of_getElem? (i := 16) rfl))) (fun _ h9 => h9) rfl dAr_level_29 ?_
  refine iv_isub hx hb dAr_level_32 ?_
  refine cv_v (va_runV (C := "MacroReckoner$Whole") (As := [.int (iI ((max scx scy) - scx))]) (rest := []) ⟨hx, hb, hml, hown, hts⟩ (cWh_widen l dC dI dA dS la lg LA ux Nx ((max scx scy) - scx) (by exact hq20) (by omega) (by exact hbx.2.1) H.size) (cwV 1 hts (gdV wt3_72 wt3_73 wt3_74 wt1_5 wt3_75) rfl rfl rfl ⟨rfl, by decide, by decide, by decide +kernel⟩ ⟨by decide, by decide⟩) (preV (q := ("MacroReckoner$Whole", TWh, 2)) hK hP hD hS hA (XC_ok dS) hX [1, 2] rfl rfl 0 rfl rfl) rfl rfl hl.1 rfl (lv_room (Nat.le_of_ble_eq_true rfl)) dAr_level_33 ⟨Nat.zero_le _, Nat.zero_le _⟩) hP hD hS hA [1, 2] [0, 3, 4, 5, 6, 7, 8, 9, 10, 11, 12] rfl (fun v_ => wAr dA ar xR la ra sa qa (wWh dA la lg v_.1 v_.2 (wWh dA ra rg RF ru (wVa dA xx wx crx tx ngx scx Cx lnx (wWh dA wx gx Fx ux (wVa dA xy wy cry ty ngy scy Cy lny (wWh dA wy gy Fy uy []))))))) (fun _ => rfl) (fun _ => rfl) (fun _ => rfl) (fun _ => rfl) (fun u_ H locs hq33 hP hD hS => ?_)
  obtain ⟨LB, lub⟩ := u_
  have hP : va_P (dC, dI) vwCl (wAr dA ar xR la ra sa qa (wWh dA la lg LB lub (wWh dA ra rg RF ru (wVa dA xx wx crx tx ngx scx Cx lnx (wWh dA wx gx Fx ux (wVa dA xy wy cry ty ngy scy Cy lny (wWh dA wy gy Fy uy []))))))) H := hP
  have hD : va_D A (wAr dA ar xR la ra sa qa (wWh dA la lg LB lub (wWh dA ra rg RF ru (wVa dA xx wx crx tx ngx scx Cx lnx (wWh dA wx gx Fx ux (wVa dA xy wy cry ty ngy scy Cy lny (wWh dA wy gy Fy uy []))))))) := hD
  have hq33 : WR LB lub (Nx * PW 10 ((max scx scy) - scx)) := hq33
  refine lv_aload_n hx hb dAr_level_36 rfl (lv_at hl 1 rfl) ?_
  refine va_get (D := (dC, dI)) (ci := 0) (v := .ref ra) (C := "MacroReckoner$Arithmetic") (T := TAr) (N := 5) hx hb hts inAr hown hK hP 0 rfl rfl 2 (by decide) (hts _ wt1_144) (fun _ h9 => h9) rfl dAr_level_37 ?_
  refine lv_aload_n hx hb dAr_level_40 rfl (lv_at hl 3 rfl) ?_
  refine va_getN (D := (dC, dI)) (ci := 4) (v := .ref wy) (C := "MacroReckoner$Value") (T := TVa) (N := 6) hx hb hts inVa hown hK hP 9 rfl rfl 1 (by decide) (va_Nw.use rfl (hX.1 ("MacroReckoner$Arithmetic", 69, "MacroReckoner$Value", "whole", "LMacroReckoner$Whole;", "MacroReckoner") (List.mem_of_getElem? (i := 10) rfl))) (fun _ h9 => h9) rfl dAr_level_41 ?_
  refine cv_v (va_runV (C := "MacroReckoner$Whole") (As := [.ref wy]) (rest := []) ⟨hx, hb, hml, hown, hts⟩ (cWh_become l dC dI dA ra rg RF ru wy gy Fy uy Ny (by exact hWy) H.size) (cwV 1 hts (gdV wt3_71 wt3_45 wt3_46 wt1_5 wt3_47) rfl rfl rfl ⟨rfl, by decide, by decide, by decide +kernel⟩ ⟨by decide, by decide⟩) (preV (q := ("MacroReckoner$Whole", TWh, 2)) hK hP hD hS hA XN_ok trivial [3, 4, 11, 12] rfl rfl 0 rfl rfl) rfl rfl hl.1 rfl (lv_room (Nat.le_of_ble_eq_true rfl)) dAr_level_44 ⟨Nat.zero_le _, Nat.zero_le _⟩) hP hD hS hA [3, 4, 11, 12] [0, 1, 2, 5, 6, 7, 8, 9, 10] rfl (fun v_ => wAr dA ar xR la ra sa qa (wWh dA la lg LB lub (wWh dA ra rg v_ uy (wVa dA xx wx crx tx ngx scx Cx lnx (wWh dA wx gx Fx ux (wVa dA xy wy cry ty ngy scy Cy lny (wWh dA wy gy Fy uy []))))))) (fun _ => rfl) (fun _ => rfl) (fun _ => rfl) (fun _ => rfl) (fun u_ H locs hq44 hP hD hS => ?_)
  obtain ⟨RA, rfl⟩ : ∃ z, z = u_ := ⟨_, rfl⟩
  have hP : va_P (dC, dI) vwCl (wAr dA ar xR la ra sa qa (wWh dA la lg LB lub (wWh dA ra rg RA uy (wVa dA xx wx crx tx ngx scx Cx lnx (wWh dA wx gx Fx ux (wVa dA xy wy cry ty ngy scy Cy lny (wWh dA wy gy Fy uy []))))))) H := hP
  have hD : va_D A (wAr dA ar xR la ra sa qa (wWh dA la lg LB lub (wWh dA ra rg RA uy (wVa dA xx wx crx tx ngx scx Cx lnx (wWh dA wx gx Fx ux (wVa dA xy wy cry ty ngy scy Cy lny (wWh dA wy gy Fy uy []))))))) := hD
  have hq44 : WR RA uy Ny := hq44
  refine lv_aload_n hx hb dAr_level_47 rfl (lv_at hl 1 rfl) ?_
  refine va_get (D := (dC, dI)) (ci := 0) (v := .ref ra) (C := "MacroReckoner$Arithmetic") (T := TAr) (N := 5) hx hb hts inAr hown hK hP 0 rfl rfl 2 (by decide) (hts _ wt1_144) (fun _ h9 => h9) rfl dAr_level_48 ?_
  refine lv_iload_n hx hb dAr_level_51 rfl (lv_at hl 0 rfl) ?_
  refine lv_aload_n hx hb dAr_level_52 rfl (lv_at hl 3 rfl) ?_
  refine va_getN (D := (dC, dI)) (ci := 4) (v := .int (iI scy)) (C := "MacroReckoner$Value") (T := TVa) (N := 6) hx hb hts inVa hown hK hP 9 rfl rfl 3 (by decide) (va_Nw.use rfl (hX.1 ("MacroReckoner$Arithmetic", 56, "MacroReckoner$Value", "scale", "I", "MacroReckoner") (List.mem_of_getElem? (i := 16) rfl))) (fun _ h9 => h9) rfl dAr_level_53 ?_
  refine iv_isub hx hb dAr_level_56 ?_
  refine cv_v (va_runV (C := "MacroReckoner$Whole") (As := [.int (iI ((max scx scy) - scy))]) (rest := []) ⟨hx, hb, hml, hown, hts⟩ (cWh_widen l dC dI dA dS ra rg RA uy Ny ((max scx scy) - scy) (by exact hq44) (by omega) (by exact hby.2.1) H.size) (cwV 1 hts (gdV wt3_72 wt3_73 wt3_74 wt1_5 wt3_75) rfl rfl rfl ⟨rfl, by decide, by decide, by decide +kernel⟩ ⟨by decide, by decide⟩) (preV (q := ("MacroReckoner$Whole", TWh, 2)) hK hP hD hS hA (XC_ok dS) hX [3, 4] rfl rfl 0 rfl rfl) rfl rfl hl.1 rfl (lv_room (Nat.le_of_ble_eq_true rfl)) dAr_level_57 ⟨Nat.zero_le _, Nat.zero_le _⟩) hP hD hS hA [3, 4] [0, 1, 2, 5, 6, 7, 8, 9, 10, 11, 12] rfl (fun v_ => wAr dA ar xR la ra sa qa (wWh dA la lg LB lub (wWh dA ra rg v_.1 v_.2 (wVa dA xx wx crx tx ngx scx Cx lnx (wWh dA wx gx Fx ux (wVa dA xy wy cry ty ngy scy Cy lny (wWh dA wy gy Fy uy []))))))) (fun _ => rfl) (fun _ => rfl) (fun _ => rfl) (fun _ => rfl) (fun u_ H locs hq57 hP hD hS => ?_)
  obtain ⟨RB, rub⟩ := u_
  have hP : va_P (dC, dI) vwCl (wAr dA ar xR la ra sa qa (wWh dA la lg LB lub (wWh dA ra rg RB rub (wVa dA xx wx crx tx ngx scx Cx lnx (wWh dA wx gx Fx ux (wVa dA xy wy cry ty ngy scy Cy lny (wWh dA wy gy Fy uy []))))))) H := hP
  have hD : va_D A (wAr dA ar xR la ra sa qa (wWh dA la lg LB lub (wWh dA ra rg RB rub (wVa dA xx wx crx tx ngx scx Cx lnx (wWh dA wx gx Fx ux (wVa dA xy wy cry ty ngy scy Cy lny (wWh dA wy gy Fy uy []))))))) := hD
  have hq57 : WR RB rub (Ny * PW 10 ((max scx scy) - scy)) := hq57
  refine lv_iload_n hx hb dAr_level_60 rfl (lv_at hl 0 rfl) ?_
  exact rt_i hx hb hr hlocks hK hS dAr_level_61 (LB, lub, RB, rub) hP hD (show (max scx scy) = max scx scy ∧ WR LB lub (Nx * PW 10 (max scx scy - scx)) ∧ WR RB rub (Ny * PW 10 (max scx scy - scy)) from by exact ⟨rfl, hq33, hq57⟩)

theorem dAr_align_0 : decode prog_2_method_10_code 0 = .ok (.iload_n 3, 1) := by decide +kernel
theorem dAr_align_1 : decode prog_2_method_10_code 1 = .ok (.aload_n 2, 1) := by decide +kernel
theorem dAr_align_2 : decode prog_2_method_10_code 2 = .ok (.getfield 56, 3) := by decide +kernel
theorem dAr_align_5 : decode prog_2_method_10_code 5 = .ok (.iadd, 1) := by decide +kernel
theorem dAr_align_6 : decode prog_2_method_10_code 6 = .ok (.aload_n 1, 1) := by decide +kernel
theorem dAr_align_7 : decode prog_2_method_10_code 7 = .ok (.getfield 56, 3) := by decide +kernel
theorem dAr_align_10 : decode prog_2_method_10_code 10 = .ok (.isub, 1) := by decide +kernel
theorem dAr_align_11 : decode prog_2_method_10_code 11 = .ok (.istore 4, 2) := by decide +kernel
theorem dAr_align_13 : decode prog_2_method_10_code 13 = .ok (.aload_n 0, 1) := by decide +kernel
theorem dAr_align_14 : decode prog_2_method_10_code 14 = .ok (.getfield 12, 3) := by decide +kernel
theorem dAr_align_17 : decode prog_2_method_10_code 17 = .ok (.aload_n 1, 1) := by decide +kernel
theorem dAr_align_18 : decode prog_2_method_10_code 18 = .ok (.getfield 69, 3) := by decide +kernel
theorem dAr_align_21 : decode prog_2_method_10_code 21 = .ok (.invokevirtual 105, 3) := by decide +kernel
theorem dAr_align_24 : decode prog_2_method_10_code 24 = .ok (.aload_n 0, 1) := by decide +kernel
theorem dAr_align_25 : decode prog_2_method_10_code 25 = .ok (.getfield 12, 3) := by decide +kernel
theorem dAr_align_28 : decode prog_2_method_10_code 28 = .ok (.iload 4, 2) := by decide +kernel
theorem dAr_align_30 : decode prog_2_method_10_code 30 = .ok (.iconst 0, 1) := by decide +kernel
theorem dAr_align_31 : decode prog_2_method_10_code 31 = .ok (.invokestatic 60, 3) := by decide +kernel
theorem dAr_align_34 : decode prog_2_method_10_code 34 = .ok (.invokevirtual 108, 3) := by decide +kernel
theorem dAr_align_37 : decode prog_2_method_10_code 37 = .ok (.aload_n 0, 1) := by decide +kernel
theorem dAr_align_38 : decode prog_2_method_10_code 38 = .ok (.getfield 18, 3) := by decide +kernel
theorem dAr_align_41 : decode prog_2_method_10_code 41 = .ok (.aload_n 2, 1) := by decide +kernel
theorem dAr_align_42 : decode prog_2_method_10_code 42 = .ok (.getfield 69, 3) := by decide +kernel
theorem dAr_align_45 : decode prog_2_method_10_code 45 = .ok (.invokevirtual 105, 3) := by decide +kernel
theorem dAr_align_48 : decode prog_2_method_10_code 48 = .ok (.aload_n 0, 1) := by decide +kernel
theorem dAr_align_49 : decode prog_2_method_10_code 49 = .ok (.getfield 18, 3) := by decide +kernel
theorem dAr_align_52 : decode prog_2_method_10_code 52 = .ok (.iload 4, 2) := by decide +kernel
theorem dAr_align_54 : decode prog_2_method_10_code 54 = .ok (.ineg, 1) := by decide +kernel
theorem dAr_align_55 : decode prog_2_method_10_code 55 = .ok (.iconst 0, 1) := by decide +kernel
theorem dAr_align_56 : decode prog_2_method_10_code 56 = .ok (.invokestatic 60, 3) := by decide +kernel
theorem dAr_align_59 : decode prog_2_method_10_code 59 = .ok (.invokevirtual 108, 3) := by decide +kernel
theorem dAr_align_62 : decode prog_2_method_10_code 62 = .ok (.return_, 1) := by decide +kernel
abbrev qAr_align (dC : Nat → ClassId) (dI : Nat → Nat → Nat) (dA : Nat → ClassId) (dS : Nat → Nat) (ar : Nat) (la : Nat) (ra : Nat) (sa : Nat) (qa : Nat) (xR : Nat) (lg : Nat) (LF : Int → Int) (lu : Int) (rg : Nat) (RF : Int → Int) (ru : Int) (xx : Nat) (wx : Nat) (crx : Nat) (tx : Int) (ngx : Int) (scx : Int) (Cx : Int → Int) (lnx : Int) (gx : Nat) (Fx : Int → Int) (ux : Int) (Nx : Int) (xy : Nat) (wy : Nat) (cry : Nat) (ty : Int) (ngy : Int) (scy : Int) (Cy : Int → Int) (lny : Int) (gy : Nat) (Fy : Int → Int) (uy : Int) (Ny : Int) (ws : Int) (A : Nat → Prop) : Array Value → State → Outcome → State → Prop := QV (dC, dI) vwCl (tyA dA) (fun (v_ : (Int → Int) × Int × (Int → Int) × Int) => WR v_.1 v_.2.1 (Nx * PW 10 (max (ws + scy - scx) 0)) ∧ WR v_.2.2.1 v_.2.2.2 (Ny * PW 10 (max (-(ws + scy - scx)) 0))) (fun (v_ : (Int → Int) × Int × (Int → Int) × Int) => wAr dA ar xR la ra sa qa (wWh dA la lg v_.1 v_.2.1 (wWh dA ra rg v_.2.2.1 v_.2.2.2 (wVa dA xx wx crx tx ngx scx Cx lnx (wWh dA wx gx Fx ux (wVa dA xy wy cry ty ngy scy Cy lny (wWh dA wy gy Fy uy []))))))) A
abbrev rmAr_align : Room := { frames := 2, cells := 0, slots := 0, locals := 83 }
set_option maxRecDepth 100000 in
set_option maxHeartbeats 1000000 in
theorem cAr_align (l : Launch) (dC : Nat → ClassId) (dI : Nat → Nat → Nat) (dA : Nat → ClassId) (dS : Nat → Nat) (ar : Nat) (la : Nat) (ra : Nat) (sa : Nat) (qa : Nat) (xR : Nat) (lg : Nat) (LF : Int → Int) (lu : Int) (rg : Nat) (RF : Int → Int) (ru : Int) (xx : Nat) (wx : Nat) (crx : Nat) (tx : Int) (ngx : Int) (scx : Int) (Cx : Int → Int) (lnx : Int) (gx : Nat) (Fx : Int → Int) (ux : Int) (Nx : Int) (xy : Nat) (wy : Nat) (cry : Nat) (ty : Int) (ngy : Int) (scy : Int) (Cy : Int → Int) (lny : Int) (gy : Nat) (Fy : Int → Int) (uy : Int) (Ny : Int) (ws : Int) (hVx : VV tx ngx scx lnx Cx Nx) (hWx : WR Fx ux Nx) (hVy : VV ty ngy scy lny Cy Ny) (hWy : WR Fy uy Ny) (hws : 0 ≤ ws ∧ ws ≤ 40) (sz : Nat) : Met l yAr_align wsAr_align rmAr_align (PC (dC, dI) vwCl (tyA dA) (XC dS) [.ref ar, .ref xx, .ref xy, .int (iI ws)] (wAr dA ar xR la ra sa qa (wWh dA la lg LF lu (wWh dA ra rg RF ru (wVa dA xx wx crx tx ngx scx Cx lnx (wWh dA wx gx Fx ux (wVa dA xy wy cry ty ngy scy Cy lny (wWh dA wy gy Fy uy []))))))) sz) (qAr_align dC dI dA dS ar la ra sa qa xR lg LF lu rg RF ru xx wx crx tx ngx scx Cx lnx gx Fx ux Nx xy wy cry ty ngy scy Cy lny gy Fy uy Ny ws (va_A (wAr dA ar xR la ra sa qa (wWh dA la lg LF lu (wWh dA ra rg RF ru (wVa dA xx wx crx tx ngx scx Cx lnx (wWh dA wx gx Fx ux (wVa dA xy wy cry ty ngy scy Cy lny (wWh dA wy gy Fy uy []))))))) sz)) 0 0 (va_A (wAr dA ar xR la ra sa qa (wWh dA la lg LF lu (wWh dA ra rg RF ru (wVa dA xx wx crx tx ngx scx Cx lnx (wWh dA wx gx Fx ux (wVa dA xy wy cry ty ngy scy Cy lny (wWh dA wy gy Fy uy []))))))) sz) := by
  refine met_of (cc := prog_2_method_10_code) (maxL := 5) (ret := none) (Qc := qAr_align dC dI dA dS ar la ra sa qa xR lg LF lu rg RF ru xx wx crx tx ngx scx Cx lnx gx Fx ux Nx xy wy cry ty ngy scy Cy lny gy Fy uy Ny ws) (XC_ok dS) (by decide) rfl (Nat.le_of_ble_eq_true rfl) ?_
  intro p e s m below meth c ls A hx hb hr hml hown hts hlocks hnm hK hP hD hA hX hS hl
  have hl : lv_has ls 5 [(0, .ref ar), (1, .ref xx), (2, .ref xy), (3, .int (iI ws))] := hl
  have hown : s.vm.findClass "MacroReckoner$Arithmetic" = some m.cls := hown
  obtain ⟨H, hH⟩ : ∃ H : Heap, H = s.heap := ⟨_, rfl⟩
  obtain ⟨locs, hlo⟩ : ∃ L : List Loc, L = [] := ⟨_, rfl⟩
  have hP : va_P (dC, dI) vwCl (wAr dA ar xR la ra sa qa (wWh dA la lg LF lu (wWh dA ra rg RF ru (wVa dA xx wx crx tx ngx scx Cx lnx (wWh dA wx gx Fx ux (wVa dA xy wy cry ty ngy scy Cy lny (wWh dA wy gy Fy uy []))))))) H := hH ▸ hP
  have hS : va_S A s.heap H locs := by rw [hH, hlo]; exact hS
  suffices hgo : W p l e rmAr_align s m [.ref ar, .ref xx, .ref xy, .int (iI ws)].toArray below meth c H locs 0 0 (MQ below (qAr_align dC dI dA dS ar la ra sa qa xR lg LF lu rg RF ru xx wx crx tx ngx scx Cx lnx gx Fx ux Nx xy wy cry ty ngy scy Cy lny gy Fy uy Ny ws A) [.ref ar, .ref xx, .ref xy, .int (iI ws)].toArray s 0 0 A) (F0 m 0 ls []) by rw [hH, hlo] at hgo; exact hgo
  clear hH hlo
  obtain ⟨htx, hngx, hscx, hlnx, hchx, hx1, hx2, hx3, hx4⟩ := hVx
  have hNx0 := (WR_bd hWx).1
  obtain ⟨hty, hngy, hscy, hlny, hchy, hy1, hy2, hy3, hy4⟩ := hVy
  have hNy0 := (WR_bd hWy).1
  have hbx := w60 hNx0 hx4 (show 0 ≤ max (ws + scy - scx) 0 by omega) (by omega)
  have hby := w60 hNy0 hy4 (show 0 ≤ max (-(ws + scy - scx)) 0 by omega) (by omega)
  refine lv_iload_n hx hb dAr_align_0 rfl (lv_at hl 3 rfl) ?_
  refine lv_aload_n hx hb dAr_align_1 rfl (lv_at hl 2 rfl) ?_
  refine va_getN (D := (dC, dI)) (ci := 4) (v := .int (iI scy)) (C := "MacroReckoner$Value") (T := TVa) (N := 6) hx hb hts inVa hown hK hP 9 rfl rfl 3 (by decide) (va_Nw.use rfl (hX.1 ("MacroReckoner$Arithmetic", 56, "MacroReckoner$Value", "scale", "I", "MacroReckoner") (List.mem_of_getElem? (i := 16) rfl))) (fun _ h9 => h9) rfl dAr_align_2 ?_
  refine iv_iadd hx hb dAr_align_5 ?_
  refine lv_aload_n hx hb dAr_align_6 rfl (lv_at hl 1 rfl) ?_
  refine va_getN (D := (dC, dI)) (ci := 4) (v := .int (iI scx)) (C := "MacroReckoner$Value") (T := TVa) (N := 6) hx hb hts inVa hown hK hP 5 rfl rfl 3 (by decide) (va_Nw.use rfl (hX.1 ("MacroReckoner$Arithmetic", 56, "MacroReckoner$Value", "scale", "I", "MacroReckoner") (List.mem_of_getElem? (i := 16) rfl))) (fun _ h9 => h9) rfl dAr_align_7 ?_
  refine iv_isub hx hb dAr_align_10 ?_
  refine lv_istore (lv' := [(4, .int (iI ((ws + scy) - scx))), (0, .ref ar), (1, .ref xx), (2, .ref xy), (3, .int (iI ws))]) hx hb dAr_align_11 hl (by decide) rfl (fun ls hl => ?_)
  refine lv_aload_n hx hb dAr_align_13 rfl (lv_at hl 1 rfl) ?_
  refine va_get (D := (dC, dI)) (ci := 0) (v := .ref la) (C := "MacroReckoner$Arithmetic") (T := TAr) (N := 5) hx hb hts inAr hown hK hP 0 rfl rfl 1 (by decide) (hts _ wt1_143) (fun _ h9 => h9) rfl dAr_align_14 ?_
  refine lv_aload_n hx hb dAr_align_17 rfl (lv_at hl 2 rfl) ?_
  refine va_getN (D := (dC, dI)) (ci := 4) (v := .ref wx) (C := "MacroReckoner$Value") (T := TVa) (N := 6) hx hb hts inVa hown hK hP 5 rfl rfl 1 (by decide) (va_Nw.use rfl (hX.1 ("MacroReckoner$Arithmetic", 69, "MacroReckoner$Value", "whole", "LMacroReckoner$Whole;", "MacroReckoner") (List.mem_of_getElem? (i := 10) rfl))) (fun _ h9 => h9) rfl dAr_align_18 ?_
  refine cv_v (va_runV (C := "MacroReckoner$Whole") (As := [.ref wx]) (rest := []) ⟨hx, hb, hml, hown, hts⟩ (cWh_become l dC dI dA la lg LF lu wx gx Fx ux Nx (by exact hWx) H.size) (cwV 1 hts (gdV wt3_71 wt3_45 wt3_46 wt1_5 wt3_47) rfl rfl rfl ⟨rfl, by decide, by decide, by decide +kernel⟩ ⟨by decide, by decide⟩) (preV (q := ("MacroReckoner$Whole", TWh, 2)) hK hP hD hS hA XN_ok trivial [1, 2, 7, 8] rfl rfl 0 rfl rfl) rfl rfl hl.1 rfl (lv_room (Nat.le_of_ble_eq_true rfl)) dAr_align_21 ⟨Nat.zero_le _, Nat.zero_le _⟩) hP hD hS hA [1, 2, 7, 8] [0, 3, 4, 5, 6, 9, 10, 11, 12] rfl (fun v_ => wAr dA ar xR la ra sa qa (wWh dA la lg v_ ux (wWh dA ra rg RF ru (wVa dA xx wx crx tx ngx scx Cx lnx (wWh dA wx gx Fx ux (wVa dA xy wy cry ty ngy scy Cy lny (wWh dA wy gy Fy uy []))))))) (fun _ => rfl) (fun _ => rfl) (fun _ => rfl) (fun _ => rfl) (fun u_ H locs hq21 hP hD hS => ?_)
  obtain ⟨LA, rfl⟩ : ∃ z, z = u_ := ⟨_, rfl⟩
  have hP : va_P (dC, dI) vwCl (wAr dA ar xR la ra sa qa (wWh dA la lg LA ux (wWh dA ra rg RF ru (wVa dA xx wx crx tx ngx scx Cx lnx (wWh dA wx gx Fx ux (wVa dA xy wy cry ty ngy scy Cy lny (wWh dA wy gy Fy uy []))))))) H := hP
  have hD : va_D A (wAr dA ar xR la ra sa qa (wWh dA la lg LA ux (wWh dA ra rg RF ru (wVa dA xx wx crx tx ngx scx Cx lnx (wWh dA wx gx Fx ux (wVa dA xy wy cry ty ngy scy Cy lny (wWh dA wy gy Fy uy []))))))) := hD
  have hq21 : WR LA ux Nx := hq21
  refine lv_aload_n hx hb dAr_align_24 rfl (lv_at hl 1 rfl) ?_
  refine va_get (D := (dC, dI)) (ci := 0) (v := .ref la) (C := "MacroReckoner$Arithmetic") (T := TAr) (N := 5) hx hb hts inAr hown hK hP 0 rfl rfl 1 (by decide) (hts _ wt1_143) (fun _ h9 => h9) rfl dAr_align_25 ?_
  refine lv_iload hx hb dAr_align_28 (lv_at hl 0 rfl) ?_
  refine lv_iconst (v := iI 0) hx hb dAr_align_30 rfl ?_
  refine iv_mmax hx hb (hml.trans hl.1.symm) hown (hts _ wt3_70) (hts _ wt2_178) (hts _ wt1_16) (hts _ wt2_179) (by decide) (Nat.le_of_ble_eq_true rfl) (Nat.zero_le _) (Nat.zero_le _) dAr_align_31 ⟨by omega, by omega⟩ ⟨by decide, by decide⟩ ?_
  refine cv_v (va_runV (C := "MacroReckoner$Whole") (As := [.int (iI (max ((ws + scy) - scx) 0))]) (rest := []) ⟨hx, hb, hml, hown, hts⟩ (cWh_widen l dC dI dA dS la lg LA ux Nx (max ((ws + scy) - scx) 0) (by exact hq21) (by omega) (by exact hbx.2.1) H.size) (cwV 1 hts (gdV wt3_72 wt3_73 wt3_74 wt1_5 wt3_75) rfl rfl rfl ⟨rfl, by decide, by decide, by decide +kernel⟩ ⟨by decide, by decide⟩) (preV (q := ("MacroReckoner$Whole", TWh, 2)) hK hP hD hS hA (XC_ok dS) hX [1, 2] rfl rfl 0 rfl rfl) rfl rfl hl.1 rfl (lv_room (Nat.le_of_ble_eq_true rfl)) dAr_align_34 ⟨Nat.zero_le _, Nat.zero_le _⟩) hP hD hS hA [1, 2] [0, 3, 4, 5, 6, 7, 8, 9, 10, 11, 12] rfl (fun v_ => wAr dA ar xR la ra sa qa (wWh dA la lg v_.1 v_.2 (wWh dA ra rg RF ru (wVa dA xx wx crx tx ngx scx Cx lnx (wWh dA wx gx Fx ux (wVa dA xy wy cry ty ngy scy Cy lny (wWh dA wy gy Fy uy []))))))) (fun _ => rfl) (fun _ => rfl) (fun _ => rfl) (fun _ => rfl) (fun u_ H locs hq34 hP hD hS => ?_)
  obtain ⟨LB, lub⟩ := u_
  have hP : va_P (dC, dI) vwCl (wAr dA ar xR la ra sa qa (wWh dA la lg LB lub (wWh dA ra rg RF ru (wVa dA xx wx crx tx ngx scx Cx lnx (wWh dA wx gx Fx ux (wVa dA xy wy cry ty ngy scy Cy lny (wWh dA wy gy Fy uy []))))))) H := hP
  have hD : va_D A (wAr dA ar xR la ra sa qa (wWh dA la lg LB lub (wWh dA ra rg RF ru (wVa dA xx wx crx tx ngx scx Cx lnx (wWh dA wx gx Fx ux (wVa dA xy wy cry ty ngy scy Cy lny (wWh dA wy gy Fy uy []))))))) := hD
  have hq34 : WR LB lub (Nx * PW 10 (max ((ws + scy) - scx) 0)) := hq34
  refine lv_aload_n hx hb dAr_align_37 rfl (lv_at hl 1 rfl) ?_
  refine va_get (D := (dC, dI)) (ci := 0) (v := .ref ra) (C := "MacroReckoner$Arithmetic") (T := TAr) (N := 5) hx hb hts inAr hown hK hP 0 rfl rfl 2 (by decide) (hts _ wt1_144) (fun _ h9 => h9) rfl dAr_align_38 ?_
  refine lv_aload_n hx hb dAr_align_41 rfl (lv_at hl 3 rfl) ?_
  refine va_getN (D := (dC, dI)) (ci := 4) (v := .ref wy) (C := "MacroReckoner$Value") (T := TVa) (N := 6) hx hb hts inVa hown hK hP 9 rfl rfl 1 (by decide) (va_Nw.use rfl (hX.1 ("MacroReckoner$Arithmetic", 69, "MacroReckoner$Value", "whole", "LMacroReckoner$Whole;", "MacroReckoner") (List.mem_of_getElem? (i := 10) rfl))) (fun _ h9 => h9) rfl dAr_align_42 ?_
  refine cv_v (va_runV (C := "MacroReckoner$Whole") (As := [.ref wy]) (rest := []) ⟨hx, hb, hml, hown, hts⟩ (cWh_become l dC dI dA ra rg RF ru wy gy Fy uy Ny (by exact hWy) H.size) (cwV 1 hts (gdV wt3_71 wt3_45 wt3_46 wt1_5 wt3_47) rfl rfl rfl ⟨rfl, by decide, by decide, by decide +kernel⟩ ⟨by decide, by decide⟩) (preV (q := ("MacroReckoner$Whole", TWh, 2)) hK hP hD hS hA XN_ok trivial [3, 4, 11, 12] rfl rfl 0 rfl rfl) rfl rfl hl.1 rfl (lv_room (Nat.le_of_ble_eq_true rfl)) dAr_align_45 ⟨Nat.zero_le _, Nat.zero_le _⟩) hP hD hS hA [3, 4, 11, 12] [0, 1, 2, 5, 6, 7, 8, 9, 10] rfl (fun v_ => wAr dA ar xR la ra sa qa (wWh dA la lg LB lub (wWh dA ra rg v_ uy (wVa dA xx wx crx tx ngx scx Cx lnx (wWh dA wx gx Fx ux (wVa dA xy wy cry ty ngy scy Cy lny (wWh dA wy gy Fy uy []))))))) (fun _ => rfl) (fun _ => rfl) (fun _ => rfl) (fun _ => rfl) (fun u_ H locs hq45 hP hD hS => ?_)
  obtain ⟨RA, rfl⟩ : ∃ z, z = u_ := ⟨_, rfl⟩
  have hP : va_P (dC, dI) vwCl (wAr dA ar xR la ra sa qa (wWh dA la lg LB lub (wWh dA ra rg RA uy (wVa dA xx wx crx tx ngx scx Cx lnx (wWh dA wx gx Fx ux (wVa dA xy wy cry ty ngy scy Cy lny (wWh dA wy gy Fy uy []))))))) H := hP
  have hD : va_D A (wAr dA ar xR la ra sa qa (wWh dA la lg LB lub (wWh dA ra rg RA uy (wVa dA xx wx crx tx ngx scx Cx lnx (wWh dA wx gx Fx ux (wVa dA xy wy cry ty ngy scy Cy lny (wWh dA wy gy Fy uy []))))))) := hD
  have hq45 : WR RA uy Ny := hq45
  refine lv_aload_n hx hb dAr_align_48 rfl (lv_at hl 1 rfl) ?_
  refine va_get (D := (dC, dI)) (ci := 0) (v := .ref ra) (C := "MacroReckoner$Arithmetic") (T := TAr) (N := 5) hx hb hts inAr hown hK hP 0 rfl rfl 2 (by decide) (hts _ wt1_144) (fun _ h9 => h9) rfl dAr_align_49 ?_
  refine lv_iload hx hb dAr_align_52 (lv_at hl 0 rfl) ?_
  refine iv_ineg hx hb dAr_align_54 ?_
  refine lv_iconst (v := iI 0) hx hb dAr_align_55 rfl ?_
  refine iv_mmax hx hb (hml.trans hl.1.symm) hown (hts _ wt3_70) (hts _ wt2_178) (hts _ wt1_16) (hts _ wt2_179) (by decide) (Nat.le_of_ble_eq_true rfl) (Nat.zero_le _) (Nat.zero_le _) dAr_align_56 ⟨by omega, by omega⟩ ⟨by decide, by decide⟩ ?_
  refine cv_v (va_runV (C := "MacroReckoner$Whole") (As := [.int (iI (max (-((ws + scy) - scx)) 0))]) (rest := []) ⟨hx, hb, hml, hown, hts⟩ (cWh_widen l dC dI dA dS ra rg RA uy Ny (max (-((ws + scy) - scx)) 0) (by exact hq45) (by omega) (by exact hby.2.1) H.size) (cwV 1 hts (gdV wt3_72 wt3_73 wt3_74 wt1_5 wt3_75) rfl rfl rfl ⟨rfl, by decide, by decide, by decide +kernel⟩ ⟨by decide, by decide⟩) (preV (q := ("MacroReckoner$Whole", TWh, 2)) hK hP hD hS hA (XC_ok dS) hX [3, 4] rfl rfl 0 rfl rfl) rfl rfl hl.1 rfl (lv_room (Nat.le_of_ble_eq_true rfl)) dAr_align_59 ⟨Nat.zero_le _, Nat.zero_le _⟩) hP hD hS hA [3, 4] [0, 1, 2, 5, 6, 7, 8, 9, 10, 11, 12] rfl (fun v_ => wAr dA ar xR la ra sa qa (wWh dA la lg LB lub (wWh dA ra rg v_.1 v_.2 (wVa dA xx wx crx tx ngx scx Cx lnx (wWh dA wx gx Fx ux (wVa dA xy wy cry ty ngy scy Cy lny (wWh dA wy gy Fy uy []))))))) (fun _ => rfl) (fun _ => rfl) (fun _ => rfl) (fun _ => rfl) (fun u_ H locs hq59 hP hD hS => ?_)
  obtain ⟨RB, rub⟩ := u_
  have hP : va_P (dC, dI) vwCl (wAr dA ar xR la ra sa qa (wWh dA la lg LB lub (wWh dA ra rg RB rub (wVa dA xx wx crx tx ngx scx Cx lnx (wWh dA wx gx Fx ux (wVa dA xy wy cry ty ngy scy Cy lny (wWh dA wy gy Fy uy []))))))) H := hP
  have hD : va_D A (wAr dA ar xR la ra sa qa (wWh dA la lg LB lub (wWh dA ra rg RB rub (wVa dA xx wx crx tx ngx scx Cx lnx (wWh dA wx gx Fx ux (wVa dA xy wy cry ty ngy scy Cy lny (wWh dA wy gy Fy uy []))))))) := hD
  have hq59 : WR RB rub (Ny * PW 10 (max (-((ws + scy) - scx)) 0)) := hq59
  exact rt_v hx hb hr hlocks hK hS dAr_align_62 (LB, lub, RB, rub) hP hD (show WR LB lub (Nx * PW 10 (max (ws + scy - scx) 0)) ∧ WR RB rub (Ny * PW 10 (max (-(ws + scy - scx)) 0)) from by exact ⟨hq34, hq59⟩)

theorem dAr_order_0 : decode prog_2_method_2_code 0 = .ok (.aload_n 1, 1) := by decide +kernel
theorem dAr_order_1 : decode prog_2_method_2_code 1 = .ok (.getfield 31, 3) := by decide +kernel
theorem dAr_order_4 : decode prog_2_method_2_code 4 = .ok (.aload_n 2, 1) := by decide +kernel
theorem dAr_order_5 : decode prog_2_method_2_code 5 = .ok (.getfield 31, 3) := by decide +kernel
theorem dAr_order_8 : decode prog_2_method_2_code 8 = .ok (.if_icmp .eq 16, 3) := by decide +kernel
theorem dAr_order_11 : decode prog_2_method_2_code 11 = .ok (.aload_n 1, 1) := by decide +kernel
theorem dAr_order_12 : decode prog_2_method_2_code 12 = .ok (.getfield 31, 3) := by decide +kernel
theorem dAr_order_15 : decode prog_2_method_2_code 15 = .ok (.ifCond .eq 7, 3) := by decide +kernel
theorem dAr_order_18 : decode prog_2_method_2_code 18 = .ok (.iconst (-1), 1) := by decide +kernel
theorem dAr_order_19 : decode prog_2_method_2_code 19 = .ok (.goto 4, 3) := by decide +kernel
theorem dAr_order_22 : decode prog_2_method_2_code 22 = .ok (.iconst 1, 1) := by decide +kernel
theorem dAr_order_23 : decode prog_2_method_2_code 23 = .ok (.ireturn, 1) := by decide +kernel
theorem dAr_order_24 : decode prog_2_method_2_code 24 = .ok (.aload_n 0, 1) := by decide +kernel
theorem dAr_order_25 : decode prog_2_method_2_code 25 = .ok (.aload_n 1, 1) := by decide +kernel
theorem dAr_order_26 : decode prog_2_method_2_code 26 = .ok (.aload_n 2, 1) := by decide +kernel
theorem dAr_order_27 : decode prog_2_method_2_code 27 = .ok (.invokevirtual 37, 3) := by decide +kernel
theorem dAr_order_30 : decode prog_2_method_2_code 30 = .ok (.pop, 1) := by decide +kernel
theorem dAr_order_31 : decode prog_2_method_2_code 31 = .ok (.aload_n 1, 1) := by decide +kernel
theorem dAr_order_32 : decode prog_2_method_2_code 32 = .ok (.getfield 31, 3) := by decide +kernel
theorem dAr_order_35 : decode prog_2_method_2_code 35 = .ok (.ifCond .eq 17, 3) := by decide +kernel
theorem dAr_order_38 : decode prog_2_method_2_code 38 = .ok (.aload_n 0, 1) := by decide +kernel
theorem dAr_order_39 : decode prog_2_method_2_code 39 = .ok (.getfield 18, 3) := by decide +kernel
theorem dAr_order_42 : decode prog_2_method_2_code 42 = .ok (.aload_n 0, 1) := by decide +kernel
theorem dAr_order_43 : decode prog_2_method_2_code 43 = .ok (.getfield 12, 3) := by decide +kernel
theorem dAr_order_46 : decode prog_2_method_2_code 46 = .ok (.invokevirtual 41, 3) := by decide +kernel
theorem dAr_order_49 : decode prog_2_method_2_code 49 = .ok (.goto 14, 3) := by decide +kernel
theorem dAr_order_52 : decode prog_2_method_2_code 52 = .ok (.aload_n 0, 1) := by decide +kernel
theorem dAr_order_53 : decode prog_2_method_2_code 53 = .ok (.getfield 12, 3) := by decide +kernel
theorem dAr_order_56 : decode prog_2_method_2_code 56 = .ok (.aload_n 0, 1) := by decide +kernel
theorem dAr_order_57 : decode prog_2_method_2_code 57 = .ok (.getfield 18, 3) := by decide +kernel
theorem dAr_order_60 : decode prog_2_method_2_code 60 = .ok (.invokevirtual 41, 3) := by decide +kernel
theorem dAr_order_63 : decode prog_2_method_2_code 63 = .ok (.ireturn, 1) := by decide +kernel
abbrev qAr_order (dC : Nat → ClassId) (dI : Nat → Nat → Nat) (dA : Nat → ClassId) (dS : Nat → Nat) (ar : Nat) (la : Nat) (ra : Nat) (sa : Nat) (qa : Nat) (xR : Nat) (lg : Nat) (LF : Int → Int) (lu : Int) (rg : Nat) (RF : Int → Int) (ru : Int) (xx : Nat) (wx : Nat) (crx : Nat) (tx : Int) (ngx : Int) (scx : Int) (Cx : Int → Int) (lnx : Int) (gx : Nat) (Fx : Int → Int) (ux : Int) (Nx : Int) (xy : Nat) (wy : Nat) (cry : Nat) (ty : Int) (ngy : Int) (scy : Int) (Cy : Int → Int) (lny : Int) (gy : Nat) (Fy : Int → Int) (uy : Int) (Ny : Int) (A : Nat → Prop) : Array Value → State → Outcome → State → Prop := QI (dC, dI) vwCl (tyA dA) (fun (r : Int) (v_ : (Int → Int) × Int × (Int → Int) × Int) => (sg ngx (Nx * PW 10 (max scx scy - scx)) < sg ngy (Ny * PW 10 (max scx scy - scy)) ∧ r = -1) ∨ (sg ngx (Nx * PW 10 (max scx scy - scx)) = sg ngy (Ny * PW 10 (max scx scy - scy)) ∧ r = 0) ∨ (sg ngy (Ny * PW 10 (max scx scy - scy)) < sg ngx (Nx * PW 10 (max scx scy - scx)) ∧ r = 1)) (fun (v_ : (Int → Int) × Int × (Int → Int) × Int) => wAr dA ar xR la ra sa qa (wWh dA la lg v_.1 v_.2.1 (wWh dA ra rg v_.2.2.1 v_.2.2.2 (wVa dA xx wx crx tx ngx scx Cx lnx (wWh dA wx gx Fx ux (wVa dA xy wy cry ty ngy scy Cy lny (wWh dA wy gy Fy uy []))))))) A
abbrev rmAr_order : Room := { frames := 3, cells := 0, slots := 0, locals := 106 }
set_option maxRecDepth 100000 in
set_option maxHeartbeats 1000000 in
theorem cAr_order (l : Launch) (dC : Nat → ClassId) (dI : Nat → Nat → Nat) (dA : Nat → ClassId) (dS : Nat → Nat) (ar : Nat) (la : Nat) (ra : Nat) (sa : Nat) (qa : Nat) (xR : Nat) (lg : Nat) (LF : Int → Int) (lu : Int) (rg : Nat) (RF : Int → Int) (ru : Int) (xx : Nat) (wx : Nat) (crx : Nat) (tx : Int) (ngx : Int) (scx : Int) (Cx : Int → Int) (lnx : Int) (gx : Nat) (Fx : Int → Int) (ux : Int) (Nx : Int) (xy : Nat) (wy : Nat) (cry : Nat) (ty : Int) (ngy : Int) (scy : Int) (Cy : Int → Int) (lny : Int) (gy : Nat) (Fy : Int → Int) (uy : Int) (Ny : Int) (hVx : VV tx ngx scx lnx Cx Nx) (hWx : WR Fx ux Nx) (hVy : VV ty ngy scy lny Cy Ny) (hWy : WR Fy uy Ny) (sz : Nat) : Met l yAr_order wsAr_order rmAr_order (PC (dC, dI) vwCl (tyA dA) (XC dS) [.ref ar, .ref xx, .ref xy] (wAr dA ar xR la ra sa qa (wWh dA la lg LF lu (wWh dA ra rg RF ru (wVa dA xx wx crx tx ngx scx Cx lnx (wWh dA wx gx Fx ux (wVa dA xy wy cry ty ngy scy Cy lny (wWh dA wy gy Fy uy []))))))) sz) (qAr_order dC dI dA dS ar la ra sa qa xR lg LF lu rg RF ru xx wx crx tx ngx scx Cx lnx gx Fx ux Nx xy wy cry ty ngy scy Cy lny gy Fy uy Ny (va_A (wAr dA ar xR la ra sa qa (wWh dA la lg LF lu (wWh dA ra rg RF ru (wVa dA xx wx crx tx ngx scx Cx lnx (wWh dA wx gx Fx ux (wVa dA xy wy cry ty ngy scy Cy lny (wWh dA wy gy Fy uy []))))))) sz)) 0 0 (va_A (wAr dA ar xR la ra sa qa (wWh dA la lg LF lu (wWh dA ra rg RF ru (wVa dA xx wx crx tx ngx scx Cx lnx (wWh dA wx gx Fx ux (wVa dA xy wy cry ty ngy scy Cy lny (wWh dA wy gy Fy uy []))))))) sz) := by
  refine met_of (cc := prog_2_method_2_code) (maxL := 3) (ret := (some .int)) (Qc := qAr_order dC dI dA dS ar la ra sa qa xR lg LF lu rg RF ru xx wx crx tx ngx scx Cx lnx gx Fx ux Nx xy wy cry ty ngy scy Cy lny gy Fy uy Ny) (XC_ok dS) (by decide) rfl (Nat.le_of_ble_eq_true rfl) ?_
  intro p e s m below meth c ls A hx hb hr hml hown hts hlocks hnm hK hP hD hA hX hS hl
  have hl : lv_has ls 3 [(0, .ref ar), (1, .ref xx), (2, .ref xy)] := hl
  have hown : s.vm.findClass "MacroReckoner$Arithmetic" = some m.cls := hown
  obtain ⟨H, hH⟩ : ∃ H : Heap, H = s.heap := ⟨_, rfl⟩
  obtain ⟨locs, hlo⟩ : ∃ L : List Loc, L = [] := ⟨_, rfl⟩
  have hP : va_P (dC, dI) vwCl (wAr dA ar xR la ra sa qa (wWh dA la lg LF lu (wWh dA ra rg RF ru (wVa dA xx wx crx tx ngx scx Cx lnx (wWh dA wx gx Fx ux (wVa dA xy wy cry ty ngy scy Cy lny (wWh dA wy gy Fy uy []))))))) H := hH ▸ hP
  have hS : va_S A s.heap H locs := by rw [hH, hlo]; exact hS
  suffices hgo : W p l e rmAr_order s m [.ref ar, .ref xx, .ref xy].toArray below meth c H locs 0 0 (MQ below (qAr_order dC dI dA dS ar la ra sa qa xR lg LF lu rg RF ru xx wx crx tx ngx scx Cx lnx gx Fx ux Nx xy wy cry ty ngy scy Cy lny gy Fy uy Ny A) [.ref ar, .ref xx, .ref xy].toArray s 0 0 A) (F0 m 0 ls []) by rw [hH, hlo] at hgo; exact hgo
  clear hH hlo
  have hVx0 := hVx
  have hVy0 := hVy
  obtain ⟨htx, hngx, hscx, hlnx, hchx, hx1, hx2, hx3, hx4⟩ := hVx
  have hNx0 := (WR_bd hWx).1
  obtain ⟨hty, hngy, hscy, hlny, hchy, hy1, hy2, hy3, hy4⟩ := hVy
  have hNy0 := (WR_bd hWy).1
  have hpx := Int.mul_nonneg hNx0 (Int.le_of_lt (PW_pos (b := 10) (by decide) (max scx scy - scx)))
  have hpy := Int.mul_nonneg hNy0 (Int.le_of_lt (PW_pos (b := 10) (by decide) (max scx scy - scy)))
  have hzx : ngx = 1 → Nx * PW 10 (max scx scy - scx) ≠ 0 := fun q => Int.ne_of_gt (Int.mul_pos (by have := hx3 q; omega) (PW_pos (by decide) _))
  have hzy : ngy = 1 → Ny * PW 10 (max scx scy - scy) ≠ 0 := fun q => Int.ne_of_gt (Int.mul_pos (by have := hy3 q; omega) (PW_pos (by decide) _))
  refine lv_aload_n hx hb dAr_order_0 rfl (lv_at hl 1 rfl) ?_
  refine va_getN (D := (dC, dI)) (ci := 4) (v := .int (iI ngx)) (C := "MacroReckoner$Value") (T := TVa) (N := 6) hx hb hts inVa hown hK hP 5 rfl rfl 2 (by decide) (va_Nw.use rfl (hX.1 ("MacroReckoner$Arithmetic", 31, "MacroReckoner$Value", "negative", "Z", "MacroReckoner") (List.mem_of_getElem? (i := 13) rfl))) (fun _ h9 => h9) rfl dAr_order_1 ?_
  refine lv_aload_n hx hb dAr_order_4 rfl (lv_at hl 2 rfl) ?_
  refine va_getN (D := (dC, dI)) (ci := 4) (v := .int (iI ngy)) (C := "MacroReckoner$Value") (T := TVa) (N := 6) hx hb hts inVa hown hK hP 9 rfl rfl 2 (by decide) (va_Nw.use rfl (hX.1 ("MacroReckoner$Arithmetic", 31, "MacroReckoner$Value", "negative", "Z", "MacroReckoner") (List.mem_of_getElem? (i := 13) rfl))) (fun _ h9 => h9) rfl dAr_order_5 ?_
  refine iv_icmp_eq (tgt := 24) hx hb dAr_order_8 (by decide) ⟨by omega, by omega⟩ ⟨by omega, by omega⟩ (fun hc8 => ?_) (fun hc8 => ?_)
  · refine lv_aload_n hx hb dAr_order_24 rfl (lv_at hl 0 rfl) ?_
    refine lv_aload_n hx hb dAr_order_25 rfl (lv_at hl 1 rfl) ?_
    refine lv_aload_n hx hb dAr_order_26 rfl (lv_at hl 2 rfl) ?_
    refine cv_i (va_runV (C := "MacroReckoner$Arithmetic") (As := [.ref xx, .ref xy]) (rest := []) ⟨hx, hb, hml, hown, hts⟩ (cAr_level l dC dI dA dS ar la ra sa qa xR lg LF lu rg RF ru xx wx crx tx ngx scx Cx lnx gx Fx ux Nx xy wy cry ty ngy scy Cy lny gy Fy uy Ny (by exact hVx0) (by exact hWx) (by exact hVy0) (by exact hWy) H.size) (cwV 2 hts (gdV wt3_66 wt3_68 ws1_15 wt1_6 wt3_69) rfl rfl rfl ⟨rfl, by decide, by decide, by decide +kernel⟩ ⟨by decide, by decide⟩) (preV (q := ("MacroReckoner$Arithmetic", TAr, 5)) hK hP hD hS hA (XC_ok dS) hX [0, 1, 2, 3, 4, 5, 6, 7, 8, 9, 10, 11, 12] rfl rfl 0 rfl rfl) rfl rfl hl.1 rfl (lv_room (Nat.le_of_ble_eq_true rfl)) dAr_order_27 ⟨Nat.zero_le _, Nat.zero_le _⟩) hP hD hS hA [0, 1, 2, 3, 4, 5, 6, 7, 8, 9, 10, 11, 12] [] rfl (fun v_ => wAr dA ar xR la ra sa qa (wWh dA la lg v_.1 v_.2.1 (wWh dA ra rg v_.2.2.1 v_.2.2.2 (wVa dA xx wx crx tx ngx scx Cx lnx (wWh dA wx gx Fx ux (wVa dA xy wy cry ty ngy scy Cy lny (wWh dA wy gy Fy uy []))))))) (fun _ => rfl) (fun _ => rfl) (fun _ => rfl) (fun _ => rfl) (fun r27 u_ H locs hq27 hP hD hS => ?_)
    obtain ⟨LA, lub, RA, rub⟩ := u_
    have hP : va_P (dC, dI) vwCl (wAr dA ar xR la ra sa qa (wWh dA la lg LA lub (wWh dA ra rg RA rub (wVa dA xx wx crx tx ngx scx Cx lnx (wWh dA wx gx Fx ux (wVa dA xy wy cry ty ngy scy Cy lny (wWh dA wy gy Fy uy []))))))) H := hP
    have hD : va_D A (wAr dA ar xR la ra sa qa (wWh dA la lg LA lub (wWh dA ra rg RA rub (wVa dA xx wx crx tx ngx scx Cx lnx (wWh dA wx gx Fx ux (wVa dA xy wy cry ty ngy scy Cy lny (wWh dA wy gy Fy uy []))))))) := hD
    have hq27 : r27 = max scx scy ∧ WR LA lub (Nx * PW 10 (max scx scy - scx)) ∧ WR RA rub (Ny * PW 10 (max scx scy - scy)) := hq27
    refine lv_pop hx hb dAr_order_30 rfl ?_
    refine lv_aload_n hx hb dAr_order_31 rfl (lv_at hl 1 rfl) ?_
    refine va_getN (D := (dC, dI)) (ci := 4) (v := .int (iI ngx)) (C := "MacroReckoner$Value") (T := TVa) (N := 6) hx hb hts inVa hown hK hP 5 rfl rfl 2 (by decide) (va_Nw.use rfl (hX.1 ("MacroReckoner$Arithmetic", 31, "MacroReckoner$Value", "negative", "Z", "MacroReckoner") (List.mem_of_getElem? (i := 13) rfl))) (fun _ h9 => h9) rfl dAr_order_32 ?_
    refine iv_if_eq (tgt := 52) hx hb dAr_order_35 (by decide) ⟨by omega, by omega⟩ (fun hc35 => ?_) (fun hc35 => ?_)
    · refine lv_aload_n hx hb dAr_order_52 rfl (lv_at hl 0 rfl) ?_
      refine va_get (D := (dC, dI)) (ci := 0) (v := .ref la) (C := "MacroReckoner$Arithmetic") (T := TAr) (N := 5) hx hb hts inAr hown hK hP 0 rfl rfl 1 (by decide) (hts _ wt1_143) (fun _ h9 => h9) rfl dAr_order_53 ?_
      refine lv_aload_n hx hb dAr_order_56 rfl (lv_at hl 0 rfl) ?_
      refine va_get (D := (dC, dI)) (ci := 0) (v := .ref ra) (C := "MacroReckoner$Arithmetic") (T := TAr) (N := 5) hx hb hts inAr hown hK hP 0 rfl rfl 2 (by decide) (hts _ wt1_144) (fun _ h9 => h9) rfl dAr_order_57 ?_
      refine cv_i (va_runV (C := "MacroReckoner$Whole") (As := [.ref ra]) (rest := []) ⟨hx, hb, hml, hown, hts⟩ (cWh_against l dC dI dA la lg LA lub (Nx * PW 10 (max scx scy - scx)) ra rg RA rub (Ny * PW 10 (max scx scy - scy)) (by exact hq27.2.1) (by exact hq27.2.2) H.size) (cwV 1 hts (gdV wt3_92 wt3_93 wt3_94 wt1_5 wt3_95) rfl rfl rfl ⟨rfl, by decide, by decide, by decide +kernel⟩ ⟨by decide, by decide⟩) (preV (q := ("MacroReckoner$Whole", TWh, 2)) hK hP hD hS hA XN_ok trivial [1, 2, 3, 4] rfl rfl 0 rfl rfl) rfl rfl hl.1 rfl (lv_room (Nat.le_of_ble_eq_true rfl)) dAr_order_60 ⟨Nat.zero_le _, Nat.zero_le _⟩) hP hD hS hA [1, 2, 3, 4] [0, 5, 6, 7, 8, 9, 10, 11, 12] rfl (fun v_ => wAr dA ar xR la ra sa qa (wWh dA la lg LA lub (wWh dA ra rg RA rub (wVa dA xx wx crx tx ngx scx Cx lnx (wWh dA wx gx Fx ux (wVa dA xy wy cry ty ngy scy Cy lny (wWh dA wy gy Fy uy []))))))) (fun _ => rfl) (fun _ => rfl) (fun _ => rfl) (fun _ => rfl) (fun r60 u_ H locs hq60 hP hD hS => ?_)
      have hP : va_P (dC, dI) vwCl (wAr dA ar xR la ra sa qa (wWh dA la lg LA lub (wWh dA ra rg RA rub (wVa dA xx wx crx tx ngx scx Cx lnx (wWh dA wx gx Fx ux (wVa dA xy wy cry ty ngy scy Cy lny (wWh dA wy gy Fy uy []))))))) H := hP
      have hD : va_D A (wAr dA ar xR la ra sa qa (wWh dA la lg LA lub (wWh dA ra rg RA rub (wVa dA xx wx crx tx ngx scx Cx lnx (wWh dA wx gx Fx ux (wVa dA xy wy cry ty ngy scy Cy lny (wWh dA wy gy Fy uy []))))))) := hD
      have hq60 : ((Nx * PW 10 (max scx scy - scx)) < (Ny * PW 10 (max scx scy - scy)) ∧ r60 = -1) ∨ ((Nx * PW 10 (max scx scy - scx)) = (Ny * PW 10 (max scx scy - scy)) ∧ r60 = 0) ∨ ((Ny * PW 10 (max scx scy - scy)) < (Nx * PW 10 (max scx scy - scx)) ∧ r60 = 1) := hq60
      exact rt_i hx hb hr hlocks hK hS dAr_order_63 (LA, lub, RA, rub) hP hD (show (sg ngx (Nx * PW 10 (max scx scy - scx)) < sg ngy (Ny * PW 10 (max scx scy - scy)) ∧ r60 = -1) ∨ (sg ngx (Nx * PW 10 (max scx scy - scx)) = sg ngy (Ny * PW 10 (max scx scy - scy)) ∧ r60 = 0) ∨ (sg ngy (Ny * PW 10 (max scx scy - scy)) < sg ngx (Nx * PW 10 (max scx scy - scx)) ∧ r60 = 1) from by unfold sg; split <;> split <;> omega)
    · refine lv_aload_n hx hb dAr_order_38 rfl (lv_at hl 0 rfl) ?_
      refine va_get (D := (dC, dI)) (ci := 0) (v := .ref ra) (C := "MacroReckoner$Arithmetic") (T := TAr) (N := 5) hx hb hts inAr hown hK hP 0 rfl rfl 2 (by decide) (hts _ wt1_144) (fun _ h9 => h9) rfl dAr_order_39 ?_
      refine lv_aload_n hx hb dAr_order_42 rfl (lv_at hl 0 rfl) ?_
      refine va_get (D := (dC, dI)) (ci := 0) (v := .ref la) (C := "MacroReckoner$Arithmetic") (T := TAr) (N := 5) hx hb hts inAr hown hK hP 0 rfl rfl 1 (by decide) (hts _ wt1_143) (fun _ h9 => h9) rfl dAr_order_43 ?_
      refine cv_i (va_runV (C := "MacroReckoner$Whole") (As := [.ref la]) (rest := []) ⟨hx, hb, hml, hown, hts⟩ (cWh_against l dC dI dA ra rg RA rub (Ny * PW 10 (max scx scy - scy)) la lg LA lub (Nx * PW 10 (max scx scy - scx)) (by exact hq27.2.2) (by exact hq27.2.1) H.size) (cwV 1 hts (gdV wt3_92 wt3_93 wt3_94 wt1_5 wt3_95) rfl rfl rfl ⟨rfl, by decide, by decide, by decide +kernel⟩ ⟨by decide, by decide⟩) (preV (q := ("MacroReckoner$Whole", TWh, 2)) hK hP hD hS hA XN_ok trivial [3, 4, 1, 2] rfl rfl 0 rfl rfl) rfl rfl hl.1 rfl (lv_room (Nat.le_of_ble_eq_true rfl)) dAr_order_46 ⟨Nat.zero_le _, Nat.zero_le _⟩) hP hD hS hA [3, 4, 1, 2] [0, 5, 6, 7, 8, 9, 10, 11, 12] rfl (fun v_ => wAr dA ar xR la ra sa qa (wWh dA la lg LA lub (wWh dA ra rg RA rub (wVa dA xx wx crx tx ngx scx Cx lnx (wWh dA wx gx Fx ux (wVa dA xy wy cry ty ngy scy Cy lny (wWh dA wy gy Fy uy []))))))) (fun _ => rfl) (fun _ => rfl) (fun _ => rfl) (fun _ => rfl) (fun r46 u_ H locs hq46 hP hD hS => ?_)
      have hP : va_P (dC, dI) vwCl (wAr dA ar xR la ra sa qa (wWh dA la lg LA lub (wWh dA ra rg RA rub (wVa dA xx wx crx tx ngx scx Cx lnx (wWh dA wx gx Fx ux (wVa dA xy wy cry ty ngy scy Cy lny (wWh dA wy gy Fy uy []))))))) H := hP
      have hD : va_D A (wAr dA ar xR la ra sa qa (wWh dA la lg LA lub (wWh dA ra rg RA rub (wVa dA xx wx crx tx ngx scx Cx lnx (wWh dA wx gx Fx ux (wVa dA xy wy cry ty ngy scy Cy lny (wWh dA wy gy Fy uy []))))))) := hD
      have hq46 : ((Ny * PW 10 (max scx scy - scy)) < (Nx * PW 10 (max scx scy - scx)) ∧ r46 = -1) ∨ ((Ny * PW 10 (max scx scy - scy)) = (Nx * PW 10 (max scx scy - scx)) ∧ r46 = 0) ∨ ((Nx * PW 10 (max scx scy - scx)) < (Ny * PW 10 (max scx scy - scy)) ∧ r46 = 1) := hq46
      refine lv_goto (tgt := 63) hx hb dAr_order_49 (by decide) ?_
      exact rt_i hx hb hr hlocks hK hS dAr_order_63 (LA, lub, RA, rub) hP hD (show (sg ngx (Nx * PW 10 (max scx scy - scx)) < sg ngy (Ny * PW 10 (max scx scy - scy)) ∧ r46 = -1) ∨ (sg ngx (Nx * PW 10 (max scx scy - scx)) = sg ngy (Ny * PW 10 (max scx scy - scy)) ∧ r46 = 0) ∨ (sg ngy (Ny * PW 10 (max scx scy - scy)) < sg ngx (Nx * PW 10 (max scx scy - scx)) ∧ r46 = 1) from by unfold sg; split <;> split <;> omega)
  · refine lv_aload_n hx hb dAr_order_11 rfl (lv_at hl 1 rfl) ?_
    refine va_getN (D := (dC, dI)) (ci := 4) (v := .int (iI ngx)) (C := "MacroReckoner$Value") (T := TVa) (N := 6) hx hb hts inVa hown hK hP 5 rfl rfl 2 (by decide) (va_Nw.use rfl (hX.1 ("MacroReckoner$Arithmetic", 31, "MacroReckoner$Value", "negative", "Z", "MacroReckoner") (List.mem_of_getElem? (i := 13) rfl))) (fun _ h9 => h9) rfl dAr_order_12 ?_
    refine iv_if_eq (tgt := 22) hx hb dAr_order_15 (by decide) ⟨by omega, by omega⟩ (fun hc15 => ?_) (fun hc15 => ?_)
    · refine lv_iconst (v := iI 1) hx hb dAr_order_22 rfl ?_
      exact rt_i hx hb hr hlocks hK hS dAr_order_23 (LF, lu, RF, ru) hP hD (show (sg ngx (Nx * PW 10 (max scx scy - scx)) < sg ngy (Ny * PW 10 (max scx scy - scy)) ∧ 1 = -1) ∨ (sg ngx (Nx * PW 10 (max scx scy - scx)) = sg ngy (Ny * PW 10 (max scx scy - scy)) ∧ 1 = 0) ∨ (sg ngy (Ny * PW 10 (max scx scy - scy)) < sg ngx (Nx * PW 10 (max scx scy - scx)) ∧ 1 = 1) from by unfold sg; split <;> split <;> omega)
    · refine lv_iconst (v := iI (-1)) hx hb dAr_order_18 rfl ?_
      refine lv_goto (tgt := 23) hx hb dAr_order_19 (by decide) ?_
      exact rt_i hx hb hr hlocks hK hS dAr_order_23 (LF, lu, RF, ru) hP hD (show (sg ngx (Nx * PW 10 (max scx scy - scx)) < sg ngy (Ny * PW 10 (max scx scy - scy)) ∧ (-1) = -1) ∨ (sg ngx (Nx * PW 10 (max scx scy - scx)) = sg ngy (Ny * PW 10 (max scx scy - scy)) ∧ (-1) = 0) ∨ (sg ngy (Ny * PW 10 (max scx scy - scy)) < sg ngx (Nx * PW 10 (max scx scy - scx)) ∧ (-1) = 1) from by unfold sg; split <;> split <;> omega)

theorem dAr_sum_0 : decode prog_2_method_3_code 0 = .ok (.aload_n 0, 1) := by decide +kernel
theorem dAr_sum_1 : decode prog_2_method_3_code 1 = .ok (.aload_n 1, 1) := by decide +kernel
theorem dAr_sum_2 : decode prog_2_method_3_code 2 = .ok (.aload_n 2, 1) := by decide +kernel
theorem dAr_sum_3 : decode prog_2_method_3_code 3 = .ok (.invokevirtual 37, 3) := by decide +kernel
theorem dAr_sum_6 : decode prog_2_method_3_code 6 = .ok (.istore 4, 2) := by decide +kernel
theorem dAr_sum_8 : decode prog_2_method_3_code 8 = .ok (.aload_n 1, 1) := by decide +kernel
theorem dAr_sum_9 : decode prog_2_method_3_code 9 = .ok (.getfield 31, 3) := by decide +kernel
theorem dAr_sum_12 : decode prog_2_method_3_code 12 = .ok (.iload_n 3, 1) := by decide +kernel
theorem dAr_sum_13 : decode prog_2_method_3_code 13 = .ok (.if_icmp .ne 29, 3) := by decide +kernel
theorem dAr_sum_16 : decode prog_2_method_3_code 16 = .ok (.aload_n 0, 1) := by decide +kernel
theorem dAr_sum_17 : decode prog_2_method_3_code 17 = .ok (.getfield 12, 3) := by decide +kernel
theorem dAr_sum_20 : decode prog_2_method_3_code 20 = .ok (.aload_n 0, 1) := by decide +kernel
theorem dAr_sum_21 : decode prog_2_method_3_code 21 = .ok (.getfield 18, 3) := by decide +kernel
theorem dAr_sum_24 : decode prog_2_method_3_code 24 = .ok (.invokevirtual 45, 3) := by decide +kernel
theorem dAr_sum_27 : decode prog_2_method_3_code 27 = .ok (.aload_n 0, 1) := by decide +kernel
theorem dAr_sum_28 : decode prog_2_method_3_code 28 = .ok (.aload_n 0, 1) := by decide +kernel
theorem dAr_sum_29 : decode prog_2_method_3_code 29 = .ok (.getfield 12, 3) := by decide +kernel
theorem dAr_sum_32 : decode prog_2_method_3_code 32 = .ok (.aload_n 1, 1) := by decide +kernel
theorem dAr_sum_33 : decode prog_2_method_3_code 33 = .ok (.getfield 31, 3) := by decide +kernel
theorem dAr_sum_36 : decode prog_2_method_3_code 36 = .ok (.iload 4, 2) := by decide +kernel
theorem dAr_sum_38 : decode prog_2_method_3_code 38 = .ok (.invokevirtual 49, 3) := by decide +kernel
theorem dAr_sum_41 : decode prog_2_method_3_code 41 = .ok (.ireturn, 1) := by decide +kernel
theorem dAr_sum_42 : decode prog_2_method_3_code 42 = .ok (.aload_n 0, 1) := by decide +kernel
theorem dAr_sum_43 : decode prog_2_method_3_code 43 = .ok (.getfield 12, 3) := by decide +kernel
theorem dAr_sum_46 : decode prog_2_method_3_code 46 = .ok (.aload_n 0, 1) := by decide +kernel
theorem dAr_sum_47 : decode prog_2_method_3_code 47 = .ok (.getfield 18, 3) := by decide +kernel
theorem dAr_sum_50 : decode prog_2_method_3_code 50 = .ok (.invokevirtual 41, 3) := by decide +kernel
theorem dAr_sum_53 : decode prog_2_method_3_code 53 = .ok (.ifCond .ge 26, 3) := by decide +kernel
theorem dAr_sum_56 : decode prog_2_method_3_code 56 = .ok (.aload_n 0, 1) := by decide +kernel
theorem dAr_sum_57 : decode prog_2_method_3_code 57 = .ok (.getfield 18, 3) := by decide +kernel
theorem dAr_sum_60 : decode prog_2_method_3_code 60 = .ok (.aload_n 0, 1) := by decide +kernel
theorem dAr_sum_61 : decode prog_2_method_3_code 61 = .ok (.getfield 12, 3) := by decide +kernel
theorem dAr_sum_64 : decode prog_2_method_3_code 64 = .ok (.invokevirtual 53, 3) := by decide +kernel
theorem dAr_sum_67 : decode prog_2_method_3_code 67 = .ok (.aload_n 0, 1) := by decide +kernel
theorem dAr_sum_68 : decode prog_2_method_3_code 68 = .ok (.aload_n 0, 1) := by decide +kernel
theorem dAr_sum_69 : decode prog_2_method_3_code 69 = .ok (.getfield 18, 3) := by decide +kernel
theorem dAr_sum_72 : decode prog_2_method_3_code 72 = .ok (.iload_n 3, 1) := by decide +kernel
theorem dAr_sum_73 : decode prog_2_method_3_code 73 = .ok (.iload 4, 2) := by decide +kernel
theorem dAr_sum_75 : decode prog_2_method_3_code 75 = .ok (.invokevirtual 49, 3) := by decide +kernel
theorem dAr_sum_78 : decode prog_2_method_3_code 78 = .ok (.ireturn, 1) := by decide +kernel
theorem dAr_sum_79 : decode prog_2_method_3_code 79 = .ok (.aload_n 0, 1) := by decide +kernel
theorem dAr_sum_80 : decode prog_2_method_3_code 80 = .ok (.getfield 12, 3) := by decide +kernel
theorem dAr_sum_83 : decode prog_2_method_3_code 83 = .ok (.aload_n 0, 1) := by decide +kernel
theorem dAr_sum_84 : decode prog_2_method_3_code 84 = .ok (.getfield 18, 3) := by decide +kernel
theorem dAr_sum_87 : decode prog_2_method_3_code 87 = .ok (.invokevirtual 53, 3) := by decide +kernel
theorem dAr_sum_90 : decode prog_2_method_3_code 90 = .ok (.aload_n 0, 1) := by decide +kernel
theorem dAr_sum_91 : decode prog_2_method_3_code 91 = .ok (.aload_n 0, 1) := by decide +kernel
theorem dAr_sum_92 : decode prog_2_method_3_code 92 = .ok (.getfield 12, 3) := by decide +kernel
theorem dAr_sum_95 : decode prog_2_method_3_code 95 = .ok (.aload_n 1, 1) := by decide +kernel
theorem dAr_sum_96 : decode prog_2_method_3_code 96 = .ok (.getfield 31, 3) := by decide +kernel
theorem dAr_sum_99 : decode prog_2_method_3_code 99 = .ok (.iload 4, 2) := by decide +kernel
theorem dAr_sum_101 : decode prog_2_method_3_code 101 = .ok (.invokevirtual 49, 3) := by decide +kernel
theorem dAr_sum_104 : decode prog_2_method_3_code 104 = .ok (.ireturn, 1) := by decide +kernel
abbrev qAr_sum (dC : Nat → ClassId) (dI : Nat → Nat → Nat) (dA : Nat → ClassId) (dS : Nat → Nat) (ar : Nat) (la : Nat) (ra : Nat) (sa : Nat) (qa : Nat) (xR : Nat) (wR : Nat) (crR : Nat) (tR : Int) (ngR : Int) (scR : Int) (CR : Int → Int) (lnR : Int) (gR : Nat) (FR : Int → Int) (uR : Int) (lg : Nat) (LF : Int → Int) (lu : Int) (rg : Nat) (RF : Int → Int) (ru : Int) (xx : Nat) (wx : Nat) (crx : Nat) (tx : Int) (ngx : Int) (scx : Int) (Cx : Int → Int) (lnx : Int) (gx : Nat) (Fx : Int → Int) (ux : Int) (Nx : Int) (xy : Nat) (wy : Nat) (cry : Nat) (ty : Int) (ngy : Int) (scy : Int) (Cy : Int → Int) (lny : Int) (gy : Nat) (Fy : Int → Int) (uy : Int) (Ny : Int) (sn : Int) (A : Nat → Prop) : Array Value → State → Outcome → State → Prop := QI (dC, dI) vwCl (tyA dA) (fun (r : Int) (v_ : Int × Int × Int × Int × (Int → Int) × Int × (Int → Int) × Int × (Int → Int) × Int) => RES r (sg ngx (Nx * PW 10 (max scx scy - scx)) + sg sn (Ny * PW 10 (max scx scy - scy))) (max scx scy) v_.1 v_.2.1 v_.2.2.1 v_.2.2.2.1 v_.2.2.2.2.1 v_.2.2.2.2.2.1) (fun (v_ : Int × Int × Int × Int × (Int → Int) × Int × (Int → Int) × Int × (Int → Int) × Int) => wAr dA ar xR la ra sa qa (wVa dA xR wR crR v_.1 v_.2.1 v_.2.2.1 CR v_.2.2.2.1 (wWh dA wR gR v_.2.2.2.2.1 v_.2.2.2.2.2.1 (wWh dA la lg v_.2.2.2.2.2.2.1 v_.2.2.2.2.2.2.2.1 (wWh dA ra rg v_.2.2.2.2.2.2.2.2.1 v_.2.2.2.2.2.2.2.2.2 (wVa dA xx wx crx tx ngx scx Cx lnx (wWh dA wx gx Fx ux (wVa dA xy wy cry ty ngy scy Cy lny (wWh dA wy gy Fy uy []))))))))) A
abbrev rmAr_sum : Room := { frames := 4, cells := 0, slots := 0, locals := 127 }
set_option maxRecDepth 100000 in
set_option maxHeartbeats 1000000 in
theorem cAr_sum (l : Launch) (dC : Nat → ClassId) (dI : Nat → Nat → Nat) (dA : Nat → ClassId) (dS : Nat → Nat) (ar : Nat) (la : Nat) (ra : Nat) (sa : Nat) (qa : Nat) (xR : Nat) (wR : Nat) (crR : Nat) (tR : Int) (ngR : Int) (scR : Int) (CR : Int → Int) (lnR : Int) (gR : Nat) (FR : Int → Int) (uR : Int) (lg : Nat) (LF : Int → Int) (lu : Int) (rg : Nat) (RF : Int → Int) (ru : Int) (xx : Nat) (wx : Nat) (crx : Nat) (tx : Int) (ngx : Int) (scx : Int) (Cx : Int → Int) (lnx : Int) (gx : Nat) (Fx : Int → Int) (ux : Int) (Nx : Int) (xy : Nat) (wy : Nat) (cry : Nat) (ty : Int) (ngy : Int) (scy : Int) (Cy : Int → Int) (lny : Int) (gy : Nat) (Fy : Int → Int) (uy : Int) (Ny : Int) (sn : Int) (hVx : VV tx ngx scx lnx Cx Nx) (hWx : WR Fx ux Nx) (hVy : VV ty ngy scy lny Cy Ny) (hWy : WR Fy uy Ny) (hsn : sn = 0 ∨ sn = 1) (sz : Nat) : Met l yAr_sum wsAr_sum rmAr_sum (PC (dC, dI) vwCl (tyA dA) (XC dS) [.ref ar, .ref xx, .ref xy, .int (iI sn)] (wAr dA ar xR la ra sa qa (wVa dA xR wR crR tR ngR scR CR lnR (wWh dA wR gR FR uR (wWh dA la lg LF lu (wWh dA ra rg RF ru (wVa dA xx wx crx tx ngx scx Cx lnx (wWh dA wx gx Fx ux (wVa dA xy wy cry ty ngy scy Cy lny (wWh dA wy gy Fy uy []))))))))) sz) (qAr_sum dC dI dA dS ar la ra sa qa xR wR crR tR ngR scR CR lnR gR FR uR lg LF lu rg RF ru xx wx crx tx ngx scx Cx lnx gx Fx ux Nx xy wy cry ty ngy scy Cy lny gy Fy uy Ny sn (va_A (wAr dA ar xR la ra sa qa (wVa dA xR wR crR tR ngR scR CR lnR (wWh dA wR gR FR uR (wWh dA la lg LF lu (wWh dA ra rg RF ru (wVa dA xx wx crx tx ngx scx Cx lnx (wWh dA wx gx Fx ux (wVa dA xy wy cry ty ngy scy Cy lny (wWh dA wy gy Fy uy []))))))))) sz)) 0 0 (va_A (wAr dA ar xR la ra sa qa (wVa dA xR wR crR tR ngR scR CR lnR (wWh dA wR gR FR uR (wWh dA la lg LF lu (wWh dA ra rg RF ru (wVa dA xx wx crx tx ngx scx Cx lnx (wWh dA wx gx Fx ux (wVa dA xy wy cry ty ngy scy Cy lny (wWh dA wy gy Fy uy []))))))))) sz) := by
  refine met_of (cc := prog_2_method_3_code) (maxL := 5) (ret := (some .int)) (Qc := qAr_sum dC dI dA dS ar la ra sa qa xR wR crR tR ngR scR CR lnR gR FR uR lg LF lu rg RF ru xx wx crx tx ngx scx Cx lnx gx Fx ux Nx xy wy cry ty ngy scy Cy lny gy Fy uy Ny sn) (XC_ok dS) (by decide) rfl (Nat.le_of_ble_eq_true rfl) ?_
  intro p e s m below meth c ls A hx hb hr hml hown hts hlocks hnm hK hP hD hA hX hS hl
  have hl : lv_has ls 5 [(0, .ref ar), (1, .ref xx), (2, .ref xy), (3, .int (iI sn))] := hl
  have hown : s.vm.findClass "MacroReckoner$Arithmetic" = some m.cls := hown
  obtain ⟨H, hH⟩ : ∃ H : Heap, H = s.heap := ⟨_, rfl⟩
  obtain ⟨locs, hlo⟩ : ∃ L : List Loc, L = [] := ⟨_, rfl⟩
  have hP : va_P (dC, dI) vwCl (wAr dA ar xR la ra sa qa (wVa dA xR wR crR tR ngR scR CR lnR (wWh dA wR gR FR uR (wWh dA la lg LF lu (wWh dA ra rg RF ru (wVa dA xx wx crx tx ngx scx Cx lnx (wWh dA wx gx Fx ux (wVa dA xy wy cry ty ngy scy Cy lny (wWh dA wy gy Fy uy []))))))))) H := hH ▸ hP
  have hS : va_S A s.heap H locs := by rw [hH, hlo]; exact hS
  suffices hgo : W p l e rmAr_sum s m [.ref ar, .ref xx, .ref xy, .int (iI sn)].toArray below meth c H locs 0 0 (MQ below (qAr_sum dC dI dA dS ar la ra sa qa xR wR crR tR ngR scR CR lnR gR FR uR lg LF lu rg RF ru xx wx crx tx ngx scx Cx lnx gx Fx ux Nx xy wy cry ty ngy scy Cy lny gy Fy uy Ny sn A) [.ref ar, .ref xx, .ref xy, .int (iI sn)].toArray s 0 0 A) (F0 m 0 ls []) by rw [hH, hlo] at hgo; exact hgo
  clear hH hlo
  have hVx0 := hVx
  have hVy0 := hVy
  obtain ⟨htx, hngx, hscx, hlnx, hchx, hx1, hx2, hx3, hx4⟩ := hVx
  have hNx0 := (WR_bd hWx).1
  obtain ⟨hty, hngy, hscy, hlny, hchy, hy1, hy2, hy3, hy4⟩ := hVy
  have hNy0 := (WR_bd hWy).1
  have hbx := w60 hNx0 hx4 (show 0 ≤ max scx scy - scx by omega) (by omega)
  have hby := w60 hNy0 hy4 (show 0 ≤ max scx scy - scy by omega) (by omega)
  have hp31 := PW_s (b := 1000000000) (i := 31) (by decide)
  rw [show (31 : Int) + 1 = 32 from rfl] at hp31
  have hp0 := PW_pos (b := 1000000000) (by decide) 31
  refine lv_aload_n hx hb dAr_sum_0 rfl (lv_at hl 0 rfl) ?_
  refine lv_aload_n hx hb dAr_sum_1 rfl (lv_at hl 1 rfl) ?_
  refine lv_aload_n hx hb dAr_sum_2 rfl (lv_at hl 2 rfl) ?_
  refine cv_i (va_runV (C := "MacroReckoner$Arithmetic") (As := [.ref xx, .ref xy]) (rest := []) ⟨hx, hb, hml, hown, hts⟩ (cAr_level l dC dI dA dS ar la ra sa qa xR lg LF lu rg RF ru xx wx crx tx ngx scx Cx lnx gx Fx ux Nx xy wy cry ty ngy scy Cy lny gy Fy uy Ny (by exact hVx0) (by exact hWx) (by exact hVy0) (by exact hWy) H.size) (cwV 2 hts (gdV wt3_66 wt3_68 ws1_15 wt1_6 wt3_69) rfl rfl rfl ⟨rfl, by decide, by decide, by decide +kernel⟩ ⟨by decide, by decide⟩) (preV (q := ("MacroReckoner$Arithmetic", TAr, 5)) hK hP hD hS hA (XC_ok dS) hX [0, 5, 6, 7, 8, 9, 10, 11, 12, 13, 14, 15, 16] rfl rfl 0 rfl rfl) rfl rfl hl.1 rfl (lv_room (Nat.le_of_ble_eq_true rfl)) dAr_sum_3 ⟨Nat.zero_le _, Nat.zero_le _⟩) hP hD hS hA [0, 5, 6, 7, 8, 9, 10, 11, 12, 13, 14, 15, 16] [1, 2, 3, 4] rfl (fun v_ => wAr dA ar xR la ra sa qa (wVa dA xR wR crR tR ngR scR CR lnR (wWh dA wR gR FR uR (wWh dA la lg v_.1 v_.2.1 (wWh dA ra rg v_.2.2.1 v_.2.2.2 (wVa dA xx wx crx tx ngx scx Cx lnx (wWh dA wx gx Fx ux (wVa dA xy wy cry ty ngy scy Cy lny (wWh dA wy gy Fy uy []))))))))) (fun _ => rfl) (fun _ => rfl) (fun _ => rfl) (fun _ => rfl) (fun s9 u_ H locs hq3 hP hD hS => ?_)
  obtain ⟨LA, lub, RA, rub⟩ := u_
  have hP : va_P (dC, dI) vwCl (wAr dA ar xR la ra sa qa (wVa dA xR wR crR tR ngR scR CR lnR (wWh dA wR gR FR uR (wWh dA la lg LA lub (wWh dA ra rg RA rub (wVa dA xx wx crx tx ngx scx Cx lnx (wWh dA wx gx Fx ux (wVa dA xy wy cry ty ngy scy Cy lny (wWh dA wy gy Fy uy []))))))))) H := hP
  have hD : va_D A (wAr dA ar xR la ra sa qa (wVa dA xR wR crR tR ngR scR CR lnR (wWh dA wR gR FR uR (wWh dA la lg LA lub (wWh dA ra rg RA rub (wVa dA xx wx crx tx ngx scx Cx lnx (wWh dA wx gx Fx ux (wVa dA xy wy cry ty ngy scy Cy lny (wWh dA wy gy Fy uy []))))))))) := hD
  have hq3 : s9 = max scx scy ∧ WR LA lub (Nx * PW 10 (max scx scy - scx)) ∧ WR RA rub (Ny * PW 10 (max scx scy - scy)) := hq3
  obtain ⟨hs9, hL9, hR9⟩ := hq3
  refine lv_istore (lv' := [(4, .int (iI s9)), (0, .ref ar), (1, .ref xx), (2, .ref xy), (3, .int (iI sn))]) hx hb dAr_sum_6 hl (by decide) rfl (fun ls hl => ?_)
  refine lv_aload_n hx hb dAr_sum_8 rfl (lv_at hl 2 rfl) ?_
  refine va_getN (D := (dC, dI)) (ci := 4) (v := .int (iI ngx)) (C := "MacroReckoner$Value") (T := TVa) (N := 6) hx hb hts inVa hown hK hP 9 rfl rfl 2 (by decide) (va_Nw.use rfl (hX.1 ("MacroReckoner$Arithmetic", 31, "MacroReckoner$Value", "negative", "Z", "MacroReckoner") (List.mem_of_getElem? (i := 13) rfl))) (fun _ h9 => h9) rfl dAr_sum_9 ?_
  refine lv_iload_n hx hb dAr_sum_12 rfl (lv_at hl 4 rfl) ?_
  refine iv_icmp_ne (tgt := 42) hx hb dAr_sum_13 (by decide) ⟨by omega, by omega⟩ ⟨by omega, by omega⟩ (fun hc13 => ?_) (fun hc13 => ?_)
  · refine lv_aload_n hx hb dAr_sum_42 rfl (lv_at hl 1 rfl) ?_
    refine va_get (D := (dC, dI)) (ci := 0) (v := .ref la) (C := "MacroReckoner$Arithmetic") (T := TAr) (N := 5) hx hb hts inAr hown hK hP 0 rfl rfl 1 (by decide) (hts _ wt1_143) (fun _ h9 => h9) rfl dAr_sum_43 ?_
    refine lv_aload_n hx hb dAr_sum_46 rfl (lv_at hl 1 rfl) ?_
    refine va_get (D := (dC, dI)) (ci := 0) (v := .ref ra) (C := "MacroReckoner$Arithmetic") (T := TAr) (N := 5) hx hb hts inAr hown hK hP 0 rfl rfl 2 (by decide) (hts _ wt1_144) (fun _ h9 => h9) rfl dAr_sum_47 ?_
    refine cv_i (va_runV (C := "MacroReckoner$Whole") (As := [.ref ra]) (rest := []) ⟨hx, hb, hml, hown, hts⟩ (cWh_against l dC dI dA la lg LA lub (Nx * PW 10 (max scx scy - scx)) ra rg RA rub (Ny * PW 10 (max scx scy - scy)) (by exact hL9) (by exact hR9) H.size) (cwV 1 hts (gdV wt3_92 wt3_93 wt3_94 wt1_5 wt3_95) rfl rfl rfl ⟨rfl, by decide, by decide, by decide +kernel⟩ ⟨by decide, by decide⟩) (preV (q := ("MacroReckoner$Whole", TWh, 2)) hK hP hD hS hA XN_ok trivial [5, 6, 7, 8] rfl rfl 0 rfl rfl) rfl rfl hl.1 rfl (lv_room (Nat.le_of_ble_eq_true rfl)) dAr_sum_50 ⟨Nat.zero_le _, Nat.zero_le _⟩) hP hD hS hA [5, 6, 7, 8] [0, 1, 2, 3, 4, 9, 10, 11, 12, 13, 14, 15, 16] rfl (fun v_ => wAr dA ar xR la ra sa qa (wVa dA xR wR crR tR ngR scR CR lnR (wWh dA wR gR FR uR (wWh dA la lg LA lub (wWh dA ra rg RA rub (wVa dA xx wx crx tx ngx scx Cx lnx (wWh dA wx gx Fx ux (wVa dA xy wy cry ty ngy scy Cy lny (wWh dA wy gy Fy uy []))))))))) (fun _ => rfl) (fun _ => rfl) (fun _ => rfl) (fun _ => rfl) (fun r50 u_ H locs hq50 hP hD hS => ?_)
    have hP : va_P (dC, dI) vwCl (wAr dA ar xR la ra sa qa (wVa dA xR wR crR tR ngR scR CR lnR (wWh dA wR gR FR uR (wWh dA la lg LA lub (wWh dA ra rg RA rub (wVa dA xx wx crx tx ngx scx Cx lnx (wWh dA wx gx Fx ux (wVa dA xy wy cry ty ngy scy Cy lny (wWh dA wy gy Fy uy []))))))))) H := hP
    have hD : va_D A (wAr dA ar xR la ra sa qa (wVa dA xR wR crR tR ngR scR CR lnR (wWh dA wR gR FR uR (wWh dA la lg LA lub (wWh dA ra rg RA rub (wVa dA xx wx crx tx ngx scx Cx lnx (wWh dA wx gx Fx ux (wVa dA xy wy cry ty ngy scy Cy lny (wWh dA wy gy Fy uy []))))))))) := hD
    have hq50 : ((Nx * PW 10 (max scx scy - scx)) < (Ny * PW 10 (max scx scy - scy)) ∧ r50 = -1) ∨ ((Nx * PW 10 (max scx scy - scx)) = (Ny * PW 10 (max scx scy - scy)) ∧ r50 = 0) ∨ ((Ny * PW 10 (max scx scy - scy)) < (Nx * PW 10 (max scx scy - scx)) ∧ r50 = 1) := hq50
    refine iv_if_ge (tgt := 79) hx hb dAr_sum_53 (by decide) ⟨by omega, by omega⟩ (fun hc53 => ?_) (fun hc53 => ?_)
    · refine lv_aload_n hx hb dAr_sum_79 rfl (lv_at hl 1 rfl) ?_
      refine va_get (D := (dC, dI)) (ci := 0) (v := .ref la) (C := "MacroReckoner$Arithmetic") (T := TAr) (N := 5) hx hb hts inAr hown hK hP 0 rfl rfl 1 (by decide) (hts _ wt1_143) (fun _ h9 => h9) rfl dAr_sum_80 ?_
      refine lv_aload_n hx hb dAr_sum_83 rfl (lv_at hl 1 rfl) ?_
      refine va_get (D := (dC, dI)) (ci := 0) (v := .ref ra) (C := "MacroReckoner$Arithmetic") (T := TAr) (N := 5) hx hb hts inAr hown hK hP 0 rfl rfl 2 (by decide) (hts _ wt1_144) (fun _ h9 => h9) rfl dAr_sum_84 ?_
      refine cv_v (va_runV (C := "MacroReckoner$Whole") (As := [.ref ra]) (rest := []) ⟨hx, hb, hml, hown, hts⟩ (cWh_subtract l dC dI dA la lg LA lub (Nx * PW 10 (max scx scy - scx)) ra rg RA rub (Ny * PW 10 (max scx scy - scy)) (by exact hL9) (by exact hR9) (by omega) H.size) (cwV 1 hts (gdV wt3_96 wt3_97 wt3_98 wt1_5 wt3_99) rfl rfl rfl ⟨rfl, by decide, by decide, by decide +kernel⟩ ⟨by decide, by decide⟩) (preV (q := ("MacroReckoner$Whole", TWh, 2)) hK hP hD hS hA XN_ok trivial [5, 6, 7, 8] rfl rfl 0 rfl rfl) rfl rfl hl.1 rfl (lv_room (Nat.le_of_ble_eq_true rfl)) dAr_sum_87 ⟨Nat.zero_le _, Nat.zero_le _⟩) hP hD hS hA [5, 6, 7, 8] [0, 1, 2, 3, 4, 9, 10, 11, 12, 13, 14, 15, 16] rfl (fun v_ => wAr dA ar xR la ra sa qa (wVa dA xR wR crR tR ngR scR CR lnR (wWh dA wR gR FR uR (wWh dA la lg v_.1 v_.2 (wWh dA ra rg RA rub (wVa dA xx wx crx tx ngx scx Cx lnx (wWh dA wx gx Fx ux (wVa dA xy wy cry ty ngy scy Cy lny (wWh dA wy gy Fy uy []))))))))) (fun _ => rfl) (fun _ => rfl) (fun _ => rfl) (fun _ => rfl) (fun u_ H locs hq87 hP hD hS => ?_)
      obtain ⟨LC, luc⟩ := u_
      have hP : va_P (dC, dI) vwCl (wAr dA ar xR la ra sa qa (wVa dA xR wR crR tR ngR scR CR lnR (wWh dA wR gR FR uR (wWh dA la lg LC luc (wWh dA ra rg RA rub (wVa dA xx wx crx tx ngx scx Cx lnx (wWh dA wx gx Fx ux (wVa dA xy wy cry ty ngy scy Cy lny (wWh dA wy gy Fy uy []))))))))) H := hP
      have hD : va_D A (wAr dA ar xR la ra sa qa (wVa dA xR wR crR tR ngR scR CR lnR (wWh dA wR gR FR uR (wWh dA la lg LC luc (wWh dA ra rg RA rub (wVa dA xx wx crx tx ngx scx Cx lnx (wWh dA wx gx Fx ux (wVa dA xy wy cry ty ngy scy Cy lny (wWh dA wy gy Fy uy []))))))))) := hD
      have hq87 : WR LC luc ((Nx * PW 10 (max scx scy - scx)) - (Ny * PW 10 (max scx scy - scy))) := hq87
      refine lv_aload_n hx hb dAr_sum_90 rfl (lv_at hl 1 rfl) ?_
      refine lv_aload_n hx hb dAr_sum_91 rfl (lv_at hl 1 rfl) ?_
      refine va_get (D := (dC, dI)) (ci := 0) (v := .ref la) (C := "MacroReckoner$Arithmetic") (T := TAr) (N := 5) hx hb hts inAr hown hK hP 0 rfl rfl 1 (by decide) (hts _ wt1_143) (fun _ h9 => h9) rfl dAr_sum_92 ?_
      refine lv_aload_n hx hb dAr_sum_95 rfl (lv_at hl 2 rfl) ?_
      refine va_getN (D := (dC, dI)) (ci := 4) (v := .int (iI ngx)) (C := "MacroReckoner$Value") (T := TVa) (N := 6) hx hb hts inVa hown hK hP 9 rfl rfl 2 (by decide) (va_Nw.use rfl (hX.1 ("MacroReckoner$Arithmetic", 31, "MacroReckoner$Value", "negative", "Z", "MacroReckoner") (List.mem_of_getElem? (i := 13) rfl))) (fun _ h9 => h9) rfl dAr_sum_96 ?_
      refine lv_iload hx hb dAr_sum_99 (lv_at hl 0 rfl) ?_
      refine cv_i (va_runV (C := "MacroReckoner$Arithmetic") (As := [.ref la, .int (iI ngx), .int (iI s9)]) (rest := []) ⟨hx, hb, hml, hown, hts⟩ (cAr_finish l dC dI dA dS ar la ra sa qa xR wR crR tR ngR scR CR lnR gR FR uR la lg LC luc (Nx * PW 10 (max scx scy - scx) - Ny * PW 10 (max scx scy - scy)) ngx s9 (by exact hq87) (by exact hngx) H.size) (cwV 3 hts (gdV wt3_83 wt3_85 ws2_0 wt1_6 wt3_86) rfl rfl rfl ⟨rfl, by decide, by decide, by decide +kernel⟩ ⟨by decide, by decide⟩) (preV (q := ("MacroReckoner$Arithmetic", TAr, 5)) hK hP hD hS hA (XC_ok dS) hX [0, 1, 2, 3, 4, 5, 6] rfl rfl 0 rfl rfl) rfl rfl hl.1 rfl (lv_room (Nat.le_of_ble_eq_true rfl)) dAr_sum_101 ⟨Nat.zero_le _, Nat.zero_le _⟩) hP hD hS hA [0, 1, 2, 3, 4, 5, 6] [7, 8, 9, 10, 11, 12, 13, 14, 15, 16] rfl (fun v_ => wAr dA ar xR la ra sa qa (wVa dA xR wR crR v_.1 v_.2.1 v_.2.2.1 CR v_.2.2.2.1 (wWh dA wR gR v_.2.2.2.2.1 v_.2.2.2.2.2 (wWh dA la lg LC luc (wWh dA ra rg RA rub (wVa dA xx wx crx tx ngx scx Cx lnx (wWh dA wx gx Fx ux (wVa dA xy wy cry ty ngy scy Cy lny (wWh dA wy gy Fy uy []))))))))) (fun _ => rfl) (fun _ => rfl) (fun _ => rfl) (fun _ => rfl) (fun r101 u_ H locs hq101 hP hD hS => ?_)
      obtain ⟨t1_101, ng1_101, sc1_101, ln1_101, F1_101, u1_101⟩ := u_
      have hP : va_P (dC, dI) vwCl (wAr dA ar xR la ra sa qa (wVa dA xR wR crR t1_101 ng1_101 sc1_101 CR ln1_101 (wWh dA wR gR F1_101 u1_101 (wWh dA la lg LC luc (wWh dA ra rg RA rub (wVa dA xx wx crx tx ngx scx Cx lnx (wWh dA wx gx Fx ux (wVa dA xy wy cry ty ngy scy Cy lny (wWh dA wy gy Fy uy []))))))))) H := hP
      have hD : va_D A (wAr dA ar xR la ra sa qa (wVa dA xR wR crR t1_101 ng1_101 sc1_101 CR ln1_101 (wWh dA wR gR F1_101 u1_101 (wWh dA la lg LC luc (wWh dA ra rg RA rub (wVa dA xx wx crx tx ngx scx Cx lnx (wWh dA wx gx Fx ux (wVa dA xy wy cry ty ngy scy Cy lny (wWh dA wy gy Fy uy []))))))))) := hD
      have hq101 : RES r101 (sg ngx (Nx * PW 10 (max scx scy - scx) - Ny * PW 10 (max scx scy - scy))) s9 t1_101 ng1_101 sc1_101 ln1_101 F1_101 u1_101 := hq101
      exact rt_i hx hb hr hlocks hK hS dAr_sum_104 (t1_101, ng1_101, sc1_101, ln1_101, F1_101, u1_101, LC, luc, RA, rub) hP hD (show RES r101 (sg ngx (Nx * PW 10 (max scx scy - scx)) + sg sn (Ny * PW 10 (max scx scy - scy))) (max scx scy) t1_101 ng1_101 sc1_101 ln1_101 F1_101 u1_101 from by rw [(sum_diff hngx hsn hc13).1]; have := hq101; rw [hs9] at this; exact this)
    · refine lv_aload_n hx hb dAr_sum_56 rfl (lv_at hl 1 rfl) ?_
      refine va_get (D := (dC, dI)) (ci := 0) (v := .ref ra) (C := "MacroReckoner$Arithmetic") (T := TAr) (N := 5) hx hb hts inAr hown hK hP 0 rfl rfl 2 (by decide) (hts _ wt1_144) (fun _ h9 => h9) rfl dAr_sum_57 ?_
      refine lv_aload_n hx hb dAr_sum_60 rfl (lv_at hl 1 rfl) ?_
      refine va_get (D := (dC, dI)) (ci := 0) (v := .ref la) (C := "MacroReckoner$Arithmetic") (T := TAr) (N := 5) hx hb hts inAr hown hK hP 0 rfl rfl 1 (by decide) (hts _ wt1_143) (fun _ h9 => h9) rfl dAr_sum_61 ?_
      refine cv_v (va_runV (C := "MacroReckoner$Whole") (As := [.ref la]) (rest := []) ⟨hx, hb, hml, hown, hts⟩ (cWh_subtract l dC dI dA ra rg RA rub (Ny * PW 10 (max scx scy - scy)) la lg LA lub (Nx * PW 10 (max scx scy - scx)) (by exact hR9) (by exact hL9) (by omega) H.size) (cwV 1 hts (gdV wt3_96 wt3_97 wt3_98 wt1_5 wt3_99) rfl rfl rfl ⟨rfl, by decide, by decide, by decide +kernel⟩ ⟨by decide, by decide⟩) (preV (q := ("MacroReckoner$Whole", TWh, 2)) hK hP hD hS hA XN_ok trivial [7, 8, 5, 6] rfl rfl 0 rfl rfl) rfl rfl hl.1 rfl (lv_room (Nat.le_of_ble_eq_true rfl)) dAr_sum_64 ⟨Nat.zero_le _, Nat.zero_le _⟩) hP hD hS hA [7, 8, 5, 6] [0, 1, 2, 3, 4, 9, 10, 11, 12, 13, 14, 15, 16] rfl (fun v_ => wAr dA ar xR la ra sa qa (wVa dA xR wR crR tR ngR scR CR lnR (wWh dA wR gR FR uR (wWh dA la lg LA lub (wWh dA ra rg v_.1 v_.2 (wVa dA xx wx crx tx ngx scx Cx lnx (wWh dA wx gx Fx ux (wVa dA xy wy cry ty ngy scy Cy lny (wWh dA wy gy Fy uy []))))))))) (fun _ => rfl) (fun _ => rfl) (fun _ => rfl) (fun _ => rfl) (fun u_ H locs hq64 hP hD hS => ?_)
      obtain ⟨RC, ruc⟩ := u_
      have hP : va_P (dC, dI) vwCl (wAr dA ar xR la ra sa qa (wVa dA xR wR crR tR ngR scR CR lnR (wWh dA wR gR FR uR (wWh dA la lg LA lub (wWh dA ra rg RC ruc (wVa dA xx wx crx tx ngx scx Cx lnx (wWh dA wx gx Fx ux (wVa dA xy wy cry ty ngy scy Cy lny (wWh dA wy gy Fy uy []))))))))) H := hP
      have hD : va_D A (wAr dA ar xR la ra sa qa (wVa dA xR wR crR tR ngR scR CR lnR (wWh dA wR gR FR uR (wWh dA la lg LA lub (wWh dA ra rg RC ruc (wVa dA xx wx crx tx ngx scx Cx lnx (wWh dA wx gx Fx ux (wVa dA xy wy cry ty ngy scy Cy lny (wWh dA wy gy Fy uy []))))))))) := hD
      have hq64 : WR RC ruc ((Ny * PW 10 (max scx scy - scy)) - (Nx * PW 10 (max scx scy - scx))) := hq64
      refine lv_aload_n hx hb dAr_sum_67 rfl (lv_at hl 1 rfl) ?_
      refine lv_aload_n hx hb dAr_sum_68 rfl (lv_at hl 1 rfl) ?_
      refine va_get (D := (dC, dI)) (ci := 0) (v := .ref ra) (C := "MacroReckoner$Arithmetic") (T := TAr) (N := 5) hx hb hts inAr hown hK hP 0 rfl rfl 2 (by decide) (hts _ wt1_144) (fun _ h9 => h9) rfl dAr_sum_69 ?_
      refine lv_iload_n hx hb dAr_sum_72 rfl (lv_at hl 4 rfl) ?_
      refine lv_iload hx hb dAr_sum_73 (lv_at hl 0 rfl) ?_
      refine cv_i (va_runV (C := "MacroReckoner$Arithmetic") (As := [.ref ra, .int (iI sn), .int (iI s9)]) (rest := []) ⟨hx, hb, hml, hown, hts⟩ (cAr_finish l dC dI dA dS ar la ra sa qa xR wR crR tR ngR scR CR lnR gR FR uR ra rg RC ruc (Ny * PW 10 (max scx scy - scy) - Nx * PW 10 (max scx scy - scx)) sn s9 (by exact hq64) (by exact hsn) H.size) (cwV 3 hts (gdV wt3_83 wt3_85 ws2_0 wt1_6 wt3_86) rfl rfl rfl ⟨rfl, by decide, by decide, by decide +kernel⟩ ⟨by decide, by decide⟩) (preV (q := ("MacroReckoner$Arithmetic", TAr, 5)) hK hP hD hS hA (XC_ok dS) hX [0, 1, 2, 3, 4, 7, 8] rfl rfl 0 rfl rfl) rfl rfl hl.1 rfl (lv_room (Nat.le_of_ble_eq_true rfl)) dAr_sum_75 ⟨Nat.zero_le _, Nat.zero_le _⟩) hP hD hS hA [0, 1, 2, 3, 4, 7, 8] [5, 6, 9, 10, 11, 12, 13, 14, 15, 16] rfl (fun v_ => wAr dA ar xR la ra sa qa (wVa dA xR wR crR v_.1 v_.2.1 v_.2.2.1 CR v_.2.2.2.1 (wWh dA wR gR v_.2.2.2.2.1 v_.2.2.2.2.2 (wWh dA la lg LA lub (wWh dA ra rg RC ruc (wVa dA xx wx crx tx ngx scx Cx lnx (wWh dA wx gx Fx ux (wVa dA xy wy cry ty ngy scy Cy lny (wWh dA wy gy Fy uy []))))))))) (fun _ => rfl) (fun _ => rfl) (fun _ => rfl) (fun _ => rfl) (fun r75 u_ H locs hq75 hP hD hS => ?_)
      obtain ⟨t1_75, ng1_75, sc1_75, ln1_75, F1_75, u1_75⟩ := u_
      have hP : va_P (dC, dI) vwCl (wAr dA ar xR la ra sa qa (wVa dA xR wR crR t1_75 ng1_75 sc1_75 CR ln1_75 (wWh dA wR gR F1_75 u1_75 (wWh dA la lg LA lub (wWh dA ra rg RC ruc (wVa dA xx wx crx tx ngx scx Cx lnx (wWh dA wx gx Fx ux (wVa dA xy wy cry ty ngy scy Cy lny (wWh dA wy gy Fy uy []))))))))) H := hP
      have hD : va_D A (wAr dA ar xR la ra sa qa (wVa dA xR wR crR t1_75 ng1_75 sc1_75 CR ln1_75 (wWh dA wR gR F1_75 u1_75 (wWh dA la lg LA lub (wWh dA ra rg RC ruc (wVa dA xx wx crx tx ngx scx Cx lnx (wWh dA wx gx Fx ux (wVa dA xy wy cry ty ngy scy Cy lny (wWh dA wy gy Fy uy []))))))))) := hD
      have hq75 : RES r75 (sg sn (Ny * PW 10 (max scx scy - scy) - Nx * PW 10 (max scx scy - scx))) s9 t1_75 ng1_75 sc1_75 ln1_75 F1_75 u1_75 := hq75
      exact rt_i hx hb hr hlocks hK hS dAr_sum_78 (t1_75, ng1_75, sc1_75, ln1_75, F1_75, u1_75, LA, lub, RC, ruc) hP hD (show RES r75 (sg ngx (Nx * PW 10 (max scx scy - scx)) + sg sn (Ny * PW 10 (max scx scy - scy))) (max scx scy) t1_75 ng1_75 sc1_75 ln1_75 F1_75 u1_75 from by rw [(sum_diff hngx hsn hc13).2]; have := hq75; rw [hs9] at this; exact this)
  · refine lv_aload_n hx hb dAr_sum_16 rfl (lv_at hl 1 rfl) ?_
    refine va_get (D := (dC, dI)) (ci := 0) (v := .ref la) (C := "MacroReckoner$Arithmetic") (T := TAr) (N := 5) hx hb hts inAr hown hK hP 0 rfl rfl 1 (by decide) (hts _ wt1_143) (fun _ h9 => h9) rfl dAr_sum_17 ?_
    refine lv_aload_n hx hb dAr_sum_20 rfl (lv_at hl 1 rfl) ?_
    refine va_get (D := (dC, dI)) (ci := 0) (v := .ref ra) (C := "MacroReckoner$Arithmetic") (T := TAr) (N := 5) hx hb hts inAr hown hK hP 0 rfl rfl 2 (by decide) (hts _ wt1_144) (fun _ h9 => h9) rfl dAr_sum_21 ?_
    refine cv_v (va_runV (C := "MacroReckoner$Whole") (As := [.ref ra]) (rest := []) ⟨hx, hb, hml, hown, hts⟩ (cWh_add l dC dI dA la lg LA lub (Nx * PW 10 (max scx scy - scx)) ra rg RA rub (Ny * PW 10 (max scx scy - scy)) (by exact hL9) (by exact hR9) (by omega) H.size) (cwV 1 hts (gdV wt3_77 wt3_78 wt3_79 wt1_5 wt3_80) rfl rfl rfl ⟨rfl, by decide, by decide, by decide +kernel⟩ ⟨by decide, by decide⟩) (preV (q := ("MacroReckoner$Whole", TWh, 2)) hK hP hD hS hA XN_ok trivial [5, 6, 7, 8] rfl rfl 0 rfl rfl) rfl rfl hl.1 rfl (lv_room (Nat.le_of_ble_eq_true rfl)) dAr_sum_24 ⟨Nat.zero_le _, Nat.zero_le _⟩) hP hD hS hA [5, 6, 7, 8] [0, 1, 2, 3, 4, 9, 10, 11, 12, 13, 14, 15, 16] rfl (fun v_ => wAr dA ar xR la ra sa qa (wVa dA xR wR crR tR ngR scR CR lnR (wWh dA wR gR FR uR (wWh dA la lg v_.1 v_.2 (wWh dA ra rg RA rub (wVa dA xx wx crx tx ngx scx Cx lnx (wWh dA wx gx Fx ux (wVa dA xy wy cry ty ngy scy Cy lny (wWh dA wy gy Fy uy []))))))))) (fun _ => rfl) (fun _ => rfl) (fun _ => rfl) (fun _ => rfl) (fun u_ H locs hq24 hP hD hS => ?_)
    obtain ⟨LC, luc⟩ := u_
    have hP : va_P (dC, dI) vwCl (wAr dA ar xR la ra sa qa (wVa dA xR wR crR tR ngR scR CR lnR (wWh dA wR gR FR uR (wWh dA la lg LC luc (wWh dA ra rg RA rub (wVa dA xx wx crx tx ngx scx Cx lnx (wWh dA wx gx Fx ux (wVa dA xy wy cry ty ngy scy Cy lny (wWh dA wy gy Fy uy []))))))))) H := hP
    have hD : va_D A (wAr dA ar xR la ra sa qa (wVa dA xR wR crR tR ngR scR CR lnR (wWh dA wR gR FR uR (wWh dA la lg LC luc (wWh dA ra rg RA rub (wVa dA xx wx crx tx ngx scx Cx lnx (wWh dA wx gx Fx ux (wVa dA xy wy cry ty ngy scy Cy lny (wWh dA wy gy Fy uy []))))))))) := hD
    have hq24 : WR LC luc ((Nx * PW 10 (max scx scy - scx)) + (Ny * PW 10 (max scx scy - scy))) := hq24
    refine lv_aload_n hx hb dAr_sum_27 rfl (lv_at hl 1 rfl) ?_
    refine lv_aload_n hx hb dAr_sum_28 rfl (lv_at hl 1 rfl) ?_
    refine va_get (D := (dC, dI)) (ci := 0) (v := .ref la) (C := "MacroReckoner$Arithmetic") (T := TAr) (N := 5) hx hb hts inAr hown hK hP 0 rfl rfl 1 (by decide) (hts _ wt1_143) (fun _ h9 => h9) rfl dAr_sum_29 ?_
    refine lv_aload_n hx hb dAr_sum_32 rfl (lv_at hl 2 rfl) ?_
    refine va_getN (D := (dC, dI)) (ci := 4) (v := .int (iI ngx)) (C := "MacroReckoner$Value") (T := TVa) (N := 6) hx hb hts inVa hown hK hP 9 rfl rfl 2 (by decide) (va_Nw.use rfl (hX.1 ("MacroReckoner$Arithmetic", 31, "MacroReckoner$Value", "negative", "Z", "MacroReckoner") (List.mem_of_getElem? (i := 13) rfl))) (fun _ h9 => h9) rfl dAr_sum_33 ?_
    refine lv_iload hx hb dAr_sum_36 (lv_at hl 0 rfl) ?_
    refine cv_i (va_runV (C := "MacroReckoner$Arithmetic") (As := [.ref la, .int (iI ngx), .int (iI s9)]) (rest := []) ⟨hx, hb, hml, hown, hts⟩ (cAr_finish l dC dI dA dS ar la ra sa qa xR wR crR tR ngR scR CR lnR gR FR uR la lg LC luc (Nx * PW 10 (max scx scy - scx) + Ny * PW 10 (max scx scy - scy)) ngx s9 (by exact hq24) (by exact hngx) H.size) (cwV 3 hts (gdV wt3_83 wt3_85 ws2_0 wt1_6 wt3_86) rfl rfl rfl ⟨rfl, by decide, by decide, by decide +kernel⟩ ⟨by decide, by decide⟩) (preV (q := ("MacroReckoner$Arithmetic", TAr, 5)) hK hP hD hS hA (XC_ok dS) hX [0, 1, 2, 3, 4, 5, 6] rfl rfl 0 rfl rfl) rfl rfl hl.1 rfl (lv_room (Nat.le_of_ble_eq_true rfl)) dAr_sum_38 ⟨Nat.zero_le _, Nat.zero_le _⟩) hP hD hS hA [0, 1, 2, 3, 4, 5, 6] [7, 8, 9, 10, 11, 12, 13, 14, 15, 16] rfl (fun v_ => wAr dA ar xR la ra sa qa (wVa dA xR wR crR v_.1 v_.2.1 v_.2.2.1 CR v_.2.2.2.1 (wWh dA wR gR v_.2.2.2.2.1 v_.2.2.2.2.2 (wWh dA la lg LC luc (wWh dA ra rg RA rub (wVa dA xx wx crx tx ngx scx Cx lnx (wWh dA wx gx Fx ux (wVa dA xy wy cry ty ngy scy Cy lny (wWh dA wy gy Fy uy []))))))))) (fun _ => rfl) (fun _ => rfl) (fun _ => rfl) (fun _ => rfl) (fun r38 u_ H locs hq38 hP hD hS => ?_)
    obtain ⟨t1_38, ng1_38, sc1_38, ln1_38, F1_38, u1_38⟩ := u_
    have hP : va_P (dC, dI) vwCl (wAr dA ar xR la ra sa qa (wVa dA xR wR crR t1_38 ng1_38 sc1_38 CR ln1_38 (wWh dA wR gR F1_38 u1_38 (wWh dA la lg LC luc (wWh dA ra rg RA rub (wVa dA xx wx crx tx ngx scx Cx lnx (wWh dA wx gx Fx ux (wVa dA xy wy cry ty ngy scy Cy lny (wWh dA wy gy Fy uy []))))))))) H := hP
    have hD : va_D A (wAr dA ar xR la ra sa qa (wVa dA xR wR crR t1_38 ng1_38 sc1_38 CR ln1_38 (wWh dA wR gR F1_38 u1_38 (wWh dA la lg LC luc (wWh dA ra rg RA rub (wVa dA xx wx crx tx ngx scx Cx lnx (wWh dA wx gx Fx ux (wVa dA xy wy cry ty ngy scy Cy lny (wWh dA wy gy Fy uy []))))))))) := hD
    have hq38 : RES r38 (sg ngx (Nx * PW 10 (max scx scy - scx) + Ny * PW 10 (max scx scy - scy))) s9 t1_38 ng1_38 sc1_38 ln1_38 F1_38 u1_38 := hq38
    exact rt_i hx hb hr hlocks hK hS dAr_sum_41 (t1_38, ng1_38, sc1_38, ln1_38, F1_38, u1_38, LC, luc, RA, rub) hP hD (show RES r38 (sg ngx (Nx * PW 10 (max scx scy - scx)) + sg sn (Ny * PW 10 (max scx scy - scy))) (max scx scy) t1_38 ng1_38 sc1_38 ln1_38 F1_38 u1_38 from by rw [sum_same hc13]; have := hq38; rw [hs9] at this; exact this)

theorem dAr_product_0 : decode prog_2_method_4_code 0 = .ok (.aload_n 1, 1) := by decide +kernel
theorem dAr_product_1 : decode prog_2_method_4_code 1 = .ok (.getfield 56, 3) := by decide +kernel
theorem dAr_product_4 : decode prog_2_method_4_code 4 = .ok (.aload_n 2, 1) := by decide +kernel
theorem dAr_product_5 : decode prog_2_method_4_code 5 = .ok (.getfield 56, 3) := by decide +kernel
theorem dAr_product_8 : decode prog_2_method_4_code 8 = .ok (.iadd, 1) := by decide +kernel
theorem dAr_product_9 : decode prog_2_method_4_code 9 = .ok (.istore 4, 2) := by decide +kernel
theorem dAr_product_11 : decode prog_2_method_4_code 11 = .ok (.iload 4, 2) := by decide +kernel
theorem dAr_product_13 : decode prog_2_method_4_code 13 = .ok (.iload_n 3, 1) := by decide +kernel
theorem dAr_product_14 : decode prog_2_method_4_code 14 = .ok (.aload_n 1, 1) := by decide +kernel
theorem dAr_product_15 : decode prog_2_method_4_code 15 = .ok (.getfield 56, 3) := by decide +kernel
theorem dAr_product_18 : decode prog_2_method_4_code 18 = .ok (.aload_n 2, 1) := by decide +kernel
theorem dAr_product_19 : decode prog_2_method_4_code 19 = .ok (.getfield 56, 3) := by decide +kernel
theorem dAr_product_22 : decode prog_2_method_4_code 22 = .ok (.invokestatic 60, 3) := by decide +kernel
theorem dAr_product_25 : decode prog_2_method_4_code 25 = .ok (.invokestatic 60, 3) := by decide +kernel
theorem dAr_product_28 : decode prog_2_method_4_code 28 = .ok (.invokestatic 66, 3) := by decide +kernel
theorem dAr_product_31 : decode prog_2_method_4_code 31 = .ok (.istore 5, 2) := by decide +kernel
theorem dAr_product_33 : decode prog_2_method_4_code 33 = .ok (.aload_n 0, 1) := by decide +kernel
theorem dAr_product_34 : decode prog_2_method_4_code 34 = .ok (.getfield 12, 3) := by decide +kernel
theorem dAr_product_37 : decode prog_2_method_4_code 37 = .ok (.aload_n 1, 1) := by decide +kernel
theorem dAr_product_38 : decode prog_2_method_4_code 38 = .ok (.getfield 69, 3) := by decide +kernel
theorem dAr_product_41 : decode prog_2_method_4_code 41 = .ok (.aload_n 2, 1) := by decide +kernel
theorem dAr_product_42 : decode prog_2_method_4_code 42 = .ok (.getfield 69, 3) := by decide +kernel
theorem dAr_product_45 : decode prog_2_method_4_code 45 = .ok (.invokevirtual 72, 3) := by decide +kernel
theorem dAr_product_48 : decode prog_2_method_4_code 48 = .ok (.aload_n 0, 1) := by decide +kernel
theorem dAr_product_49 : decode prog_2_method_4_code 49 = .ok (.getfield 12, 3) := by decide +kernel
theorem dAr_product_52 : decode prog_2_method_4_code 52 = .ok (.iload 4, 2) := by decide +kernel
theorem dAr_product_54 : decode prog_2_method_4_code 54 = .ok (.iload 5, 2) := by decide +kernel
theorem dAr_product_56 : decode prog_2_method_4_code 56 = .ok (.isub, 1) := by decide +kernel
theorem dAr_product_57 : decode prog_2_method_4_code 57 = .ok (.invokevirtual 76, 3) := by decide +kernel
theorem dAr_product_60 : decode prog_2_method_4_code 60 = .ok (.aload_n 0, 1) := by decide +kernel
theorem dAr_product_61 : decode prog_2_method_4_code 61 = .ok (.aload_n 0, 1) := by decide +kernel
theorem dAr_product_62 : decode prog_2_method_4_code 62 = .ok (.getfield 12, 3) := by decide +kernel
theorem dAr_product_65 : decode prog_2_method_4_code 65 = .ok (.aload_n 1, 1) := by decide +kernel
theorem dAr_product_66 : decode prog_2_method_4_code 66 = .ok (.getfield 31, 3) := by decide +kernel
theorem dAr_product_69 : decode prog_2_method_4_code 69 = .ok (.aload_n 2, 1) := by decide +kernel
theorem dAr_product_70 : decode prog_2_method_4_code 70 = .ok (.getfield 31, 3) := by decide +kernel
theorem dAr_product_73 : decode prog_2_method_4_code 73 = .ok (.if_icmp .eq 7, 3) := by decide +kernel
theorem dAr_product_76 : decode prog_2_method_4_code 76 = .ok (.iconst 1, 1) := by decide +kernel
theorem dAr_product_77 : decode prog_2_method_4_code 77 = .ok (.goto 4, 3) := by decide +kernel
theorem dAr_product_80 : decode prog_2_method_4_code 80 = .ok (.iconst 0, 1) := by decide +kernel
theorem dAr_product_81 : decode prog_2_method_4_code 81 = .ok (.iload 5, 2) := by decide +kernel
theorem dAr_product_83 : decode prog_2_method_4_code 83 = .ok (.invokevirtual 49, 3) := by decide +kernel
theorem dAr_product_86 : decode prog_2_method_4_code 86 = .ok (.ireturn, 1) := by decide +kernel
abbrev qAr_product (dC : Nat → ClassId) (dI : Nat → Nat → Nat) (dA : Nat → ClassId) (dS : Nat → Nat) (ar : Nat) (la : Nat) (ra : Nat) (sa : Nat) (qa : Nat) (xR : Nat) (wR : Nat) (crR : Nat) (tR : Int) (ngR : Int) (scR : Int) (CR : Int → Int) (lnR : Int) (gR : Nat) (FR : Int → Int) (uR : Int) (lg : Nat) (LF : Int → Int) (lu : Int) (xx : Nat) (wx : Nat) (crx : Nat) (tx : Int) (ngx : Int) (scx : Int) (Cx : Int → Int) (lnx : Int) (gx : Nat) (Fx : Int → Int) (ux : Int) (Nx : Int) (xy : Nat) (wy : Nat) (cry : Nat) (ty : Int) (ngy : Int) (scy : Int) (Cy : Int → Int) (lny : Int) (gy : Nat) (Fy : Int → Int) (uy : Int) (Ny : Int) (ws : Int) (A : Nat → Prop) : Array Value → State → Outcome → State → Prop := QI (dC, dI) vwCl (tyA dA) (fun (r : Int) (v_ : Int × Int × Int × Int × (Int → Int) × Int × (Int → Int) × Int) => RES r (sg (if ngx = ngy then 0 else 1) (Nx * Ny / PW 10 (scx + scy - min (scx + scy) (max ws (max scx scy))))) (min (scx + scy) (max ws (max scx scy))) v_.1 v_.2.1 v_.2.2.1 v_.2.2.2.1 v_.2.2.2.2.1 v_.2.2.2.2.2.1) (fun (v_ : Int × Int × Int × Int × (Int → Int) × Int × (Int → Int) × Int) => wAr dA ar xR la ra sa qa (wVa dA xR wR crR v_.1 v_.2.1 v_.2.2.1 CR v_.2.2.2.1 (wWh dA wR gR v_.2.2.2.2.1 v_.2.2.2.2.2.1 (wWh dA la lg v_.2.2.2.2.2.2.1 v_.2.2.2.2.2.2.2 (wVa dA xx wx crx tx ngx scx Cx lnx (wWh dA wx gx Fx ux (wVa dA xy wy cry ty ngy scy Cy lny (wWh dA wy gy Fy uy [])))))))) A
abbrev rmAr_product : Room := { frames := 4, cells := 0, slots := 0, locals := 127 }
set_option maxRecDepth 100000 in
set_option maxHeartbeats 1000000 in
theorem cAr_product (l : Launch) (dC : Nat → ClassId) (dI : Nat → Nat → Nat) (dA : Nat → ClassId) (dS : Nat → Nat) (ar : Nat) (la : Nat) (ra : Nat) (sa : Nat) (qa : Nat) (xR : Nat) (wR : Nat) (crR : Nat) (tR : Int) (ngR : Int) (scR : Int) (CR : Int → Int) (lnR : Int) (gR : Nat) (FR : Int → Int) (uR : Int) (lg : Nat) (LF : Int → Int) (lu : Int) (xx : Nat) (wx : Nat) (crx : Nat) (tx : Int) (ngx : Int) (scx : Int) (Cx : Int → Int) (lnx : Int) (gx : Nat) (Fx : Int → Int) (ux : Int) (Nx : Int) (xy : Nat) (wy : Nat) (cry : Nat) (ty : Int) (ngy : Int) (scy : Int) (Cy : Int → Int) (lny : Int) (gy : Nat) (Fy : Int → Int) (uy : Int) (Ny : Int) (ws : Int) (hVx : VV tx ngx scx lnx Cx Nx) (hWx : WR Fx ux Nx) (hVy : VV ty ngy scy lny Cy Ny) (hWy : WR Fy uy Ny) (hws : 0 ≤ ws ∧ ws ≤ 40) (sz : Nat) : Met l yAr_product wsAr_product rmAr_product (PC (dC, dI) vwCl (tyA dA) (XC dS) [.ref ar, .ref xx, .ref xy, .int (iI ws)] (wAr dA ar xR la ra sa qa (wVa dA xR wR crR tR ngR scR CR lnR (wWh dA wR gR FR uR (wWh dA la lg LF lu (wVa dA xx wx crx tx ngx scx Cx lnx (wWh dA wx gx Fx ux (wVa dA xy wy cry ty ngy scy Cy lny (wWh dA wy gy Fy uy [])))))))) sz) (qAr_product dC dI dA dS ar la ra sa qa xR wR crR tR ngR scR CR lnR gR FR uR lg LF lu xx wx crx tx ngx scx Cx lnx gx Fx ux Nx xy wy cry ty ngy scy Cy lny gy Fy uy Ny ws (va_A (wAr dA ar xR la ra sa qa (wVa dA xR wR crR tR ngR scR CR lnR (wWh dA wR gR FR uR (wWh dA la lg LF lu (wVa dA xx wx crx tx ngx scx Cx lnx (wWh dA wx gx Fx ux (wVa dA xy wy cry ty ngy scy Cy lny (wWh dA wy gy Fy uy [])))))))) sz)) 0 0 (va_A (wAr dA ar xR la ra sa qa (wVa dA xR wR crR tR ngR scR CR lnR (wWh dA wR gR FR uR (wWh dA la lg LF lu (wVa dA xx wx crx tx ngx scx Cx lnx (wWh dA wx gx Fx ux (wVa dA xy wy cry ty ngy scy Cy lny (wWh dA wy gy Fy uy [])))))))) sz) := by
  refine met_of (cc := prog_2_method_4_code) (maxL := 6) (ret := (some .int)) (Qc := qAr_product dC dI dA dS ar la ra sa qa xR wR crR tR ngR scR CR lnR gR FR uR lg LF lu xx wx crx tx ngx scx Cx lnx gx Fx ux Nx xy wy cry ty ngy scy Cy lny gy Fy uy Ny ws) (XC_ok dS) (by decide) rfl (Nat.le_of_ble_eq_true rfl) ?_
  intro p e s m below meth c ls A hx hb hr hml hown hts hlocks hnm hK hP hD hA hX hS hl
  have hl : lv_has ls 6 [(0, .ref ar), (1, .ref xx), (2, .ref xy), (3, .int (iI ws))] := hl
  have hown : s.vm.findClass "MacroReckoner$Arithmetic" = some m.cls := hown
  obtain ⟨H, hH⟩ : ∃ H : Heap, H = s.heap := ⟨_, rfl⟩
  obtain ⟨locs, hlo⟩ : ∃ L : List Loc, L = [] := ⟨_, rfl⟩
  have hP : va_P (dC, dI) vwCl (wAr dA ar xR la ra sa qa (wVa dA xR wR crR tR ngR scR CR lnR (wWh dA wR gR FR uR (wWh dA la lg LF lu (wVa dA xx wx crx tx ngx scx Cx lnx (wWh dA wx gx Fx ux (wVa dA xy wy cry ty ngy scy Cy lny (wWh dA wy gy Fy uy [])))))))) H := hH ▸ hP
  have hS : va_S A s.heap H locs := by rw [hH, hlo]; exact hS
  suffices hgo : W p l e rmAr_product s m [.ref ar, .ref xx, .ref xy, .int (iI ws)].toArray below meth c H locs 0 0 (MQ below (qAr_product dC dI dA dS ar la ra sa qa xR wR crR tR ngR scR CR lnR gR FR uR lg LF lu xx wx crx tx ngx scx Cx lnx gx Fx ux Nx xy wy cry ty ngy scy Cy lny gy Fy uy Ny ws A) [.ref ar, .ref xx, .ref xy, .int (iI ws)].toArray s 0 0 A) (F0 m 0 ls []) by rw [hH, hlo] at hgo; exact hgo
  clear hH hlo
  obtain ⟨htx, hngx, hscx, hlnx, hchx, hx1, hx2, hx3, hx4⟩ := hVx
  have hNx0 := (WR_bd hWx).1
  obtain ⟨hty, hngy, hscy, hlny, hchy, hy1, hy2, hy3, hy4⟩ := hVy
  have hNy0 := (WR_bd hWy).1
  have hu6 := u60 hWx hx4
  have hu7 := u60 hWy hy4
  refine lv_aload_n hx hb dAr_product_0 rfl (lv_at hl 1 rfl) ?_
  refine va_getN (D := (dC, dI)) (ci := 4) (v := .int (iI scx)) (C := "MacroReckoner$Value") (T := TVa) (N := 6) hx hb hts inVa hown hK hP 7 rfl rfl 3 (by decide) (va_Nw.use rfl (hX.1 ("MacroReckoner$Arithmetic", 56, "MacroReckoner$Value", "scale", "I", "MacroReckoner") (List.mem_of_getElem? (i := 16) rfl))) (fun _ h9 => h9) rfl dAr_product_1 ?_
  refine lv_aload_n hx hb dAr_product_4 rfl (lv_at hl 2 rfl) ?_
  refine va_getN (D := (dC, dI)) (ci := 4) (v := .int (iI scy)) (C := "MacroReckoner$Value") (T := TVa) (N := 6) hx hb hts inVa hown hK hP 11 rfl rfl 3 (by decide) (va_Nw.use rfl (hX.1 ("MacroReckoner$Arithmetic", 56, "MacroReckoner$Value", "scale", "I", "MacroReckoner") (List.mem_of_getElem? (i := 16) rfl))) (fun _ h9 => h9) rfl dAr_product_5 ?_
  refine iv_iadd hx hb dAr_product_8 ?_
  refine lv_istore (lv' := [(4, .int (iI (scx + scy))), (0, .ref ar), (1, .ref xx), (2, .ref xy), (3, .int (iI ws))]) hx hb dAr_product_9 hl (by decide) rfl (fun ls hl => ?_)
  refine lv_iload hx hb dAr_product_11 (lv_at hl 0 rfl) ?_
  refine lv_iload_n hx hb dAr_product_13 rfl (lv_at hl 4 rfl) ?_
  refine lv_aload_n hx hb dAr_product_14 rfl (lv_at hl 2 rfl) ?_
  refine va_getN (D := (dC, dI)) (ci := 4) (v := .int (iI scx)) (C := "MacroReckoner$Value") (T := TVa) (N := 6) hx hb hts inVa hown hK hP 7 rfl rfl 3 (by decide) (va_Nw.use rfl (hX.1 ("MacroReckoner$Arithmetic", 56, "MacroReckoner$Value", "scale", "I", "MacroReckoner") (List.mem_of_getElem? (i := 16) rfl))) (fun _ h9 => h9) rfl dAr_product_15 ?_
  refine lv_aload_n hx hb dAr_product_18 rfl (lv_at hl 3 rfl) ?_
  refine va_getN (D := (dC, dI)) (ci := 4) (v := .int (iI scy)) (C := "MacroReckoner$Value") (T := TVa) (N := 6) hx hb hts inVa hown hK hP 11 rfl rfl 3 (by decide) (va_Nw.use rfl (hX.1 ("MacroReckoner$Arithmetic", 56, "MacroReckoner$Value", "scale", "I", "MacroReckoner") (List.mem_of_getElem? (i := 16) rfl))) (fun _ h9 => h9) rfl dAr_product_19 ?_
  refine iv_mmax hx hb (hml.trans hl.1.symm) hown (hts _ wt3_70) (hts _ wt2_178) (hts _ wt1_16) (hts _ wt2_179) (by decide) (Nat.le_of_ble_eq_true rfl) (Nat.zero_le _) (Nat.zero_le _) dAr_product_22 ⟨by omega, by omega⟩ ⟨by omega, by omega⟩ ?_
  refine iv_mmax hx hb (hml.trans hl.1.symm) hown (hts _ wt3_70) (hts _ wt2_178) (hts _ wt1_16) (hts _ wt2_179) (by decide) (Nat.le_of_ble_eq_true rfl) (Nat.zero_le _) (Nat.zero_le _) dAr_product_25 ⟨by omega, by omega⟩ ⟨by omega, by omega⟩ ?_
  refine iv_mmin hx hb (hml.trans hl.1.symm) hown (hts _ wt3_108) (hts _ wt2_181) (hts _ wt1_16) (hts _ wt2_182) (by decide) (Nat.le_of_ble_eq_true rfl) (Nat.zero_le _) (Nat.zero_le _) dAr_product_28 ⟨by omega, by omega⟩ ⟨by omega, by omega⟩ ?_
  refine lv_istore (lv' := [(5, .int (iI (min (scx + scy) (max ws (max scx scy))))), (4, .int (iI (scx + scy))), (0, .ref ar), (1, .ref xx), (2, .ref xy), (3, .int (iI ws))]) hx hb dAr_product_31 hl (by decide) rfl (fun ls hl => ?_)
  have hsB : 0 ≤ scx + scy - (min (scx + scy) (max ws (max scx scy))) ∧ scx + scy - (min (scx + scy) (max ws (max scx scy))) ≤ 80 := by omega
  refine lv_aload_n hx hb dAr_product_33 rfl (lv_at hl 2 rfl) ?_
  refine va_get (D := (dC, dI)) (ci := 0) (v := .ref la) (C := "MacroReckoner$Arithmetic") (T := TAr) (N := 5) hx hb hts inAr hown hK hP 0 rfl rfl 1 (by decide) (hts _ wt1_143) (fun _ h9 => h9) rfl dAr_product_34 ?_
  refine lv_aload_n hx hb dAr_product_37 rfl (lv_at hl 3 rfl) ?_
  refine va_getN (D := (dC, dI)) (ci := 4) (v := .ref wx) (C := "MacroReckoner$Value") (T := TVa) (N := 6) hx hb hts inVa hown hK hP 7 rfl rfl 1 (by decide) (va_Nw.use rfl (hX.1 ("MacroReckoner$Arithmetic", 69, "MacroReckoner$Value", "whole", "LMacroReckoner$Whole;", "MacroReckoner") (List.mem_of_getElem? (i := 10) rfl))) (fun _ h9 => h9) rfl dAr_product_38 ?_
  refine lv_aload_n hx hb dAr_product_41 rfl (lv_at hl 4 rfl) ?_
  refine va_getN (D := (dC, dI)) (ci := 4) (v := .ref wy) (C := "MacroReckoner$Value") (T := TVa) (N := 6) hx hb hts inVa hown hK hP 11 rfl rfl 1 (by decide) (va_Nw.use rfl (hX.1 ("MacroReckoner$Arithmetic", 69, "MacroReckoner$Value", "whole", "LMacroReckoner$Whole;", "MacroReckoner") (List.mem_of_getElem? (i := 10) rfl))) (fun _ h9 => h9) rfl dAr_product_42 ?_
  refine cv_v (va_runV (C := "MacroReckoner$Whole") (As := [.ref wx, .ref wy]) (rest := []) ⟨hx, hb, hml, hown, hts⟩ (cWh_becomeProduct l dC dI dA la lg LF lu wx gx Fx ux Nx wy gy Fy uy Ny (by exact hWx) (by exact hWy) (by omega) H.size) (cwV 2 hts (gdV wt3_109 wt3_110 wt3_111 wt1_5 wt3_112) rfl rfl rfl ⟨rfl, by decide, by decide, by decide +kernel⟩ ⟨by decide, by decide⟩) (preV (q := ("MacroReckoner$Whole", TWh, 2)) hK hP hD hS hA XN_ok trivial [5, 6, 9, 10, 13, 14] rfl rfl 0 rfl rfl) rfl rfl hl.1 rfl (lv_room (Nat.le_of_ble_eq_true rfl)) dAr_product_45 ⟨Nat.zero_le _, Nat.zero_le _⟩) hP hD hS hA [5, 6, 9, 10, 13, 14] [0, 1, 2, 3, 4, 7, 8, 11, 12] rfl (fun v_ => wAr dA ar xR la ra sa qa (wVa dA xR wR crR tR ngR scR CR lnR (wWh dA wR gR FR uR (wWh dA la lg v_.1 v_.2 (wVa dA xx wx crx tx ngx scx Cx lnx (wWh dA wx gx Fx ux (wVa dA xy wy cry ty ngy scy Cy lny (wWh dA wy gy Fy uy [])))))))) (fun _ => rfl) (fun _ => rfl) (fun _ => rfl) (fun _ => rfl) (fun u_ H locs hq45 hP hD hS => ?_)
  obtain ⟨LA, lua⟩ := u_
  have hP : va_P (dC, dI) vwCl (wAr dA ar xR la ra sa qa (wVa dA xR wR crR tR ngR scR CR lnR (wWh dA wR gR FR uR (wWh dA la lg LA lua (wVa dA xx wx crx tx ngx scx Cx lnx (wWh dA wx gx Fx ux (wVa dA xy wy cry ty ngy scy Cy lny (wWh dA wy gy Fy uy [])))))))) H := hP
  have hD : va_D A (wAr dA ar xR la ra sa qa (wVa dA xR wR crR tR ngR scR CR lnR (wWh dA wR gR FR uR (wWh dA la lg LA lua (wVa dA xx wx crx tx ngx scx Cx lnx (wWh dA wx gx Fx ux (wVa dA xy wy cry ty ngy scy Cy lny (wWh dA wy gy Fy uy [])))))))) := hD
  have hq45 : WR LA lua (Nx * Ny) := hq45
  refine lv_aload_n hx hb dAr_product_48 rfl (lv_at hl 2 rfl) ?_
  refine va_get (D := (dC, dI)) (ci := 0) (v := .ref la) (C := "MacroReckoner$Arithmetic") (T := TAr) (N := 5) hx hb hts inAr hown hK hP 0 rfl rfl 1 (by decide) (hts _ wt1_143) (fun _ h9 => h9) rfl dAr_product_49 ?_
  refine lv_iload hx hb dAr_product_52 (lv_at hl 1 rfl) ?_
  refine lv_iload hx hb dAr_product_54 (lv_at hl 0 rfl) ?_
  refine iv_isub hx hb dAr_product_56 ?_
  refine cv_v (va_runV (C := "MacroReckoner$Whole") (As := [.int (iI ((scx + scy) - (min (scx + scy) (max ws (max scx scy)))))]) (rest := []) ⟨hx, hb, hml, hown, hts⟩ (cWh_cut l dC dI dA dS la lg LA lua (Nx * Ny) ((scx + scy) - (min (scx + scy) (max ws (max scx scy)))) (by exact hq45) (by omega) H.size) (cwV 1 hts (gdV wt3_114 wt3_115 wt3_116 wt1_5 wt3_117) rfl rfl rfl ⟨rfl, by decide, by decide, by decide +kernel⟩ ⟨by decide, by decide⟩) (preV (q := ("MacroReckoner$Whole", TWh, 2)) hK hP hD hS hA (XC_ok dS) hX [5, 6] rfl rfl 0 rfl rfl) rfl rfl hl.1 rfl (lv_room (Nat.le_of_ble_eq_true rfl)) dAr_product_57 ⟨Nat.zero_le _, Nat.zero_le _⟩) hP hD hS hA [5, 6] [0, 1, 2, 3, 4, 7, 8, 9, 10, 11, 12, 13, 14] rfl (fun v_ => wAr dA ar xR la ra sa qa (wVa dA xR wR crR tR ngR scR CR lnR (wWh dA wR gR FR uR (wWh dA la lg v_.1 v_.2 (wVa dA xx wx crx tx ngx scx Cx lnx (wWh dA wx gx Fx ux (wVa dA xy wy cry ty ngy scy Cy lny (wWh dA wy gy Fy uy [])))))))) (fun _ => rfl) (fun _ => rfl) (fun _ => rfl) (fun _ => rfl) (fun u_ H locs hq57 hP hD hS => ?_)
  obtain ⟨LB, lub⟩ := u_
  have hP : va_P (dC, dI) vwCl (wAr dA ar xR la ra sa qa (wVa dA xR wR crR tR ngR scR CR lnR (wWh dA wR gR FR uR (wWh dA la lg LB lub (wVa dA xx wx crx tx ngx scx Cx lnx (wWh dA wx gx Fx ux (wVa dA xy wy cry ty ngy scy Cy lny (wWh dA wy gy Fy uy [])))))))) H := hP
  have hD : va_D A (wAr dA ar xR la ra sa qa (wVa dA xR wR crR tR ngR scR CR lnR (wWh dA wR gR FR uR (wWh dA la lg LB lub (wVa dA xx wx crx tx ngx scx Cx lnx (wWh dA wx gx Fx ux (wVa dA xy wy cry ty ngy scy Cy lny (wWh dA wy gy Fy uy [])))))))) := hD
  have hq57 : WR LB lub ((Nx * Ny) / PW 10 ((scx + scy) - (min (scx + scy) (max ws (max scx scy))))) := hq57
  refine lv_aload_n hx hb dAr_product_60 rfl (lv_at hl 2 rfl) ?_
  refine lv_aload_n hx hb dAr_product_61 rfl (lv_at hl 2 rfl) ?_
  refine va_get (D := (dC, dI)) (ci := 0) (v := .ref la) (C := "MacroReckoner$Arithmetic") (T := TAr) (N := 5) hx hb hts inAr hown hK hP 0 rfl rfl 1 (by decide) (hts _ wt1_143) (fun _ h9 => h9) rfl dAr_product_62 ?_
  refine lv_aload_n hx hb dAr_product_65 rfl (lv_at hl 3 rfl) ?_
  refine va_getN (D := (dC, dI)) (ci := 4) (v := .int (iI ngx)) (C := "MacroReckoner$Value") (T := TVa) (N := 6) hx hb hts inVa hown hK hP 7 rfl rfl 2 (by decide) (va_Nw.use rfl (hX.1 ("MacroReckoner$Arithmetic", 31, "MacroReckoner$Value", "negative", "Z", "MacroReckoner") (List.mem_of_getElem? (i := 13) rfl))) (fun _ h9 => h9) rfl dAr_product_66 ?_
  refine lv_aload_n hx hb dAr_product_69 rfl (lv_at hl 4 rfl) ?_
  refine va_getN (D := (dC, dI)) (ci := 4) (v := .int (iI ngy)) (C := "MacroReckoner$Value") (T := TVa) (N := 6) hx hb hts inVa hown hK hP 11 rfl rfl 2 (by decide) (va_Nw.use rfl (hX.1 ("MacroReckoner$Arithmetic", 31, "MacroReckoner$Value", "negative", "Z", "MacroReckoner") (List.mem_of_getElem? (i := 13) rfl))) (fun _ h9 => h9) rfl dAr_product_70 ?_
  refine iv_icmp_eq (tgt := 80) hx hb dAr_product_73 (by decide) ⟨by omega, by omega⟩ ⟨by omega, by omega⟩ (fun hc73 => ?_) (fun hc73 => ?_)
  · refine lv_iconst (v := iI 0) hx hb dAr_product_80 rfl ?_
    refine lv_iload hx hb dAr_product_81 (lv_at hl 0 rfl) ?_
    refine cv_i (va_runV (C := "MacroReckoner$Arithmetic") (As := [.ref la, .int (iI 0), .int (iI (min (scx + scy) (max ws (max scx scy))))]) (rest := []) ⟨hx, hb, hml, hown, hts⟩ (cAr_finish l dC dI dA dS ar la ra sa qa xR wR crR tR ngR scR CR lnR gR FR uR la lg LB lub (Nx * Ny / PW 10 (scx + scy - (min (scx + scy) (max ws (max scx scy))))) 0 (min (scx + scy) (max ws (max scx scy))) (by exact hq57) (by omega) H.size) (cwV 3 hts (gdV wt3_83 wt3_85 ws2_0 wt1_6 wt3_86) rfl rfl rfl ⟨rfl, by decide, by decide, by decide +kernel⟩ ⟨by decide, by decide⟩) (preV (q := ("MacroReckoner$Arithmetic", TAr, 5)) hK hP hD hS hA (XC_ok dS) hX [0, 1, 2, 3, 4, 5, 6] rfl rfl 0 rfl rfl) rfl rfl hl.1 rfl (lv_room (Nat.le_of_ble_eq_true rfl)) dAr_product_83 ⟨Nat.zero_le _, Nat.zero_le _⟩) hP hD hS hA [0, 1, 2, 3, 4, 5, 6] [7, 8, 9, 10, 11, 12, 13, 14] rfl (fun v_ => wAr dA ar xR la ra sa qa (wVa dA xR wR crR v_.1 v_.2.1 v_.2.2.1 CR v_.2.2.2.1 (wWh dA wR gR v_.2.2.2.2.1 v_.2.2.2.2.2 (wWh dA la lg LB lub (wVa dA xx wx crx tx ngx scx Cx lnx (wWh dA wx gx Fx ux (wVa dA xy wy cry ty ngy scy Cy lny (wWh dA wy gy Fy uy [])))))))) (fun _ => rfl) (fun _ => rfl) (fun _ => rfl) (fun _ => rfl) (fun r83 u_ H locs hq83 hP hD hS => ?_)
    obtain ⟨t1_83, ng1_83, sc1_83, ln1_83, F1_83, u1_83⟩ := u_
    have hP : va_P (dC, dI) vwCl (wAr dA ar xR la ra sa qa (wVa dA xR wR crR t1_83 ng1_83 sc1_83 CR ln1_83 (wWh dA wR gR F1_83 u1_83 (wWh dA la lg LB lub (wVa dA xx wx crx tx ngx scx Cx lnx (wWh dA wx gx Fx ux (wVa dA xy wy cry ty ngy scy Cy lny (wWh dA wy gy Fy uy [])))))))) H := hP
    have hD : va_D A (wAr dA ar xR la ra sa qa (wVa dA xR wR crR t1_83 ng1_83 sc1_83 CR ln1_83 (wWh dA wR gR F1_83 u1_83 (wWh dA la lg LB lub (wVa dA xx wx crx tx ngx scx Cx lnx (wWh dA wx gx Fx ux (wVa dA xy wy cry ty ngy scy Cy lny (wWh dA wy gy Fy uy [])))))))) := hD
    have hq83 : RES r83 (sg 0 (Nx * Ny / PW 10 (scx + scy - (min (scx + scy) (max ws (max scx scy)))))) (min (scx + scy) (max ws (max scx scy))) t1_83 ng1_83 sc1_83 ln1_83 F1_83 u1_83 := hq83
    exact rt_i hx hb hr hlocks hK hS dAr_product_86 (t1_83, ng1_83, sc1_83, ln1_83, F1_83, u1_83, LB, lub) hP hD (show RES r83 (sg (if ngx = ngy then 0 else 1) (Nx * Ny / PW 10 (scx + scy - min (scx + scy) (max ws (max scx scy))))) (min (scx + scy) (max ws (max scx scy))) t1_83 ng1_83 sc1_83 ln1_83 F1_83 u1_83 from by first | (rw [if_pos hc73]; exact hq83) | (rw [if_neg hc73]; exact hq83))
  · refine lv_iconst (v := iI 1) hx hb dAr_product_76 rfl ?_
    refine lv_goto (tgt := 81) hx hb dAr_product_77 (by decide) ?_
    refine lv_iload hx hb dAr_product_81 (lv_at hl 0 rfl) ?_
    refine cv_i (va_runV (C := "MacroReckoner$Arithmetic") (As := [.ref la, .int (iI 1), .int (iI (min (scx + scy) (max ws (max scx scy))))]) (rest := []) ⟨hx, hb, hml, hown, hts⟩ (cAr_finish l dC dI dA dS ar la ra sa qa xR wR crR tR ngR scR CR lnR gR FR uR la lg LB lub (Nx * Ny / PW 10 (scx + scy - (min (scx + scy) (max ws (max scx scy))))) 1 (min (scx + scy) (max ws (max scx scy))) (by exact hq57) (by omega) H.size) (cwV 3 hts (gdV wt3_83 wt3_85 ws2_0 wt1_6 wt3_86) rfl rfl rfl ⟨rfl, by decide, by decide, by decide +kernel⟩ ⟨by decide, by decide⟩) (preV (q := ("MacroReckoner$Arithmetic", TAr, 5)) hK hP hD hS hA (XC_ok dS) hX [0, 1, 2, 3, 4, 5, 6] rfl rfl 0 rfl rfl) rfl rfl hl.1 rfl (lv_room (Nat.le_of_ble_eq_true rfl)) dAr_product_83 ⟨Nat.zero_le _, Nat.zero_le _⟩) hP hD hS hA [0, 1, 2, 3, 4, 5, 6] [7, 8, 9, 10, 11, 12, 13, 14] rfl (fun v_ => wAr dA ar xR la ra sa qa (wVa dA xR wR crR v_.1 v_.2.1 v_.2.2.1 CR v_.2.2.2.1 (wWh dA wR gR v_.2.2.2.2.1 v_.2.2.2.2.2 (wWh dA la lg LB lub (wVa dA xx wx crx tx ngx scx Cx lnx (wWh dA wx gx Fx ux (wVa dA xy wy cry ty ngy scy Cy lny (wWh dA wy gy Fy uy [])))))))) (fun _ => rfl) (fun _ => rfl) (fun _ => rfl) (fun _ => rfl) (fun r83 u_ H locs hq83 hP hD hS => ?_)
    obtain ⟨t1_83, ng1_83, sc1_83, ln1_83, F1_83, u1_83⟩ := u_
    have hP : va_P (dC, dI) vwCl (wAr dA ar xR la ra sa qa (wVa dA xR wR crR t1_83 ng1_83 sc1_83 CR ln1_83 (wWh dA wR gR F1_83 u1_83 (wWh dA la lg LB lub (wVa dA xx wx crx tx ngx scx Cx lnx (wWh dA wx gx Fx ux (wVa dA xy wy cry ty ngy scy Cy lny (wWh dA wy gy Fy uy [])))))))) H := hP
    have hD : va_D A (wAr dA ar xR la ra sa qa (wVa dA xR wR crR t1_83 ng1_83 sc1_83 CR ln1_83 (wWh dA wR gR F1_83 u1_83 (wWh dA la lg LB lub (wVa dA xx wx crx tx ngx scx Cx lnx (wWh dA wx gx Fx ux (wVa dA xy wy cry ty ngy scy Cy lny (wWh dA wy gy Fy uy [])))))))) := hD
    have hq83 : RES r83 (sg 1 (Nx * Ny / PW 10 (scx + scy - (min (scx + scy) (max ws (max scx scy)))))) (min (scx + scy) (max ws (max scx scy))) t1_83 ng1_83 sc1_83 ln1_83 F1_83 u1_83 := hq83
    exact rt_i hx hb hr hlocks hK hS dAr_product_86 (t1_83, ng1_83, sc1_83, ln1_83, F1_83, u1_83, LB, lub) hP hD (show RES r83 (sg (if ngx = ngy then 0 else 1) (Nx * Ny / PW 10 (scx + scy - min (scx + scy) (max ws (max scx scy))))) (min (scx + scy) (max ws (max scx scy))) t1_83 ng1_83 sc1_83 ln1_83 F1_83 u1_83 from by first | (rw [if_pos hc73]; exact hq83) | (rw [if_neg hc73]; exact hq83))

theorem dAr_quotient_0 : decode prog_2_method_5_code 0 = .ok (.aload_n 2, 1) := by decide +kernel
theorem dAr_quotient_1 : decode prog_2_method_5_code 1 = .ok (.getfield 69, 3) := by decide +kernel
theorem dAr_quotient_4 : decode prog_2_method_5_code 4 = .ok (.invokevirtual 80, 3) := by decide +kernel
theorem dAr_quotient_7 : decode prog_2_method_5_code 7 = .ok (.ifCond .eq 6, 3) := by decide +kernel
theorem dAr_quotient_10 : decode prog_2_method_5_code 10 = .ok (.bipush (-5), 2) := by decide +kernel
theorem dAr_quotient_12 : decode prog_2_method_5_code 12 = .ok (.ireturn, 1) := by decide +kernel
theorem dAr_quotient_13 : decode prog_2_method_5_code 13 = .ok (.aload_n 0, 1) := by decide +kernel
theorem dAr_quotient_14 : decode prog_2_method_5_code 14 = .ok (.aload_n 1, 1) := by decide +kernel
theorem dAr_quotient_15 : decode prog_2_method_5_code 15 = .ok (.aload_n 2, 1) := by decide +kernel
theorem dAr_quotient_16 : decode prog_2_method_5_code 16 = .ok (.iload_n 3, 1) := by decide +kernel
theorem dAr_quotient_17 : decode prog_2_method_5_code 17 = .ok (.invokevirtual 84, 3) := by decide +kernel
theorem dAr_quotient_20 : decode prog_2_method_5_code 20 = .ok (.aload_n 0, 1) := by decide +kernel
theorem dAr_quotient_21 : decode prog_2_method_5_code 21 = .ok (.getfield 12, 3) := by decide +kernel
theorem dAr_quotient_24 : decode prog_2_method_5_code 24 = .ok (.aload_n 0, 1) := by decide +kernel
theorem dAr_quotient_25 : decode prog_2_method_5_code 25 = .ok (.getfield 18, 3) := by decide +kernel
theorem dAr_quotient_28 : decode prog_2_method_5_code 28 = .ok (.aload_n 0, 1) := by decide +kernel
theorem dAr_quotient_29 : decode prog_2_method_5_code 29 = .ok (.getfield 24, 3) := by decide +kernel
theorem dAr_quotient_32 : decode prog_2_method_5_code 32 = .ok (.invokevirtual 88, 3) := by decide +kernel
theorem dAr_quotient_35 : decode prog_2_method_5_code 35 = .ok (.aload_n 0, 1) := by decide +kernel
theorem dAr_quotient_36 : decode prog_2_method_5_code 36 = .ok (.aload_n 0, 1) := by decide +kernel
theorem dAr_quotient_37 : decode prog_2_method_5_code 37 = .ok (.getfield 24, 3) := by decide +kernel
theorem dAr_quotient_40 : decode prog_2_method_5_code 40 = .ok (.aload_n 1, 1) := by decide +kernel
theorem dAr_quotient_41 : decode prog_2_method_5_code 41 = .ok (.getfield 31, 3) := by decide +kernel
theorem dAr_quotient_44 : decode prog_2_method_5_code 44 = .ok (.aload_n 2, 1) := by decide +kernel
theorem dAr_quotient_45 : decode prog_2_method_5_code 45 = .ok (.getfield 31, 3) := by decide +kernel
theorem dAr_quotient_48 : decode prog_2_method_5_code 48 = .ok (.if_icmp .eq 7, 3) := by decide +kernel
theorem dAr_quotient_51 : decode prog_2_method_5_code 51 = .ok (.iconst 1, 1) := by decide +kernel
theorem dAr_quotient_52 : decode prog_2_method_5_code 52 = .ok (.goto 4, 3) := by decide +kernel
theorem dAr_quotient_55 : decode prog_2_method_5_code 55 = .ok (.iconst 0, 1) := by decide +kernel
theorem dAr_quotient_56 : decode prog_2_method_5_code 56 = .ok (.iload_n 3, 1) := by decide +kernel
theorem dAr_quotient_57 : decode prog_2_method_5_code 57 = .ok (.invokevirtual 49, 3) := by decide +kernel
theorem dAr_quotient_60 : decode prog_2_method_5_code 60 = .ok (.ireturn, 1) := by decide +kernel
abbrev qAr_quotient (dC : Nat → ClassId) (dI : Nat → Nat → Nat) (dA : Nat → ClassId) (dS : Nat → Nat) (ar : Nat) (la : Nat) (ra : Nat) (sa : Nat) (qa : Nat) (xR : Nat) (wR : Nat) (crR : Nat) (tR : Int) (ngR : Int) (scR : Int) (CR : Int → Int) (lnR : Int) (gR : Nat) (FR : Int → Int) (uR : Int) (lg : Nat) (LF : Int → Int) (lu : Int) (rg : Nat) (RF : Int → Int) (ru : Int) (qg : Nat) (QF : Int → Int) (qu : Int) (xx : Nat) (wx : Nat) (crx : Nat) (tx : Int) (ngx : Int) (scx : Int) (Cx : Int → Int) (lnx : Int) (gx : Nat) (Fx : Int → Int) (ux : Int) (Nx : Int) (xy : Nat) (wy : Nat) (cry : Nat) (ty : Int) (ngy : Int) (scy : Int) (Cy : Int → Int) (lny : Int) (gy : Nat) (Fy : Int → Int) (uy : Int) (Ny : Int) (ws : Int) (A : Nat → Prop) : Array Value → State → Outcome → State → Prop := QI (dC, dI) vwCl (tyA dA) (fun (r : Int) (v_ : Int × Int × Int × Int × (Int → Int) × Int × (Int → Int) × Int × (Int → Int) × Int × (Int → Int) × Int) => (Ny = 0 ∧ r = -5) ∨ (Ny ≠ 0 ∧ RES r (sg (if ngx = ngy then 0 else 1) (Nx * PW 10 (max (ws + scy - scx) 0) / (Ny * PW 10 (max (-(ws + scy - scx)) 0)))) ws v_.1 v_.2.1 v_.2.2.1 v_.2.2.2.1 v_.2.2.2.2.1 v_.2.2.2.2.2.1)) (fun (v_ : Int × Int × Int × Int × (Int → Int) × Int × (Int → Int) × Int × (Int → Int) × Int × (Int → Int) × Int) => wAr dA ar xR la ra sa qa (wVa dA xR wR crR v_.1 v_.2.1 v_.2.2.1 CR v_.2.2.2.1 (wWh dA wR gR v_.2.2.2.2.1 v_.2.2.2.2.2.1 (wWh dA la lg v_.2.2.2.2.2.2.1 v_.2.2.2.2.2.2.2.1 (wWh dA ra rg v_.2.2.2.2.2.2.2.2.1 v_.2.2.2.2.2.2.2.2.2.1 (wWh dA qa qg v_.2.2.2.2.2.2.2.2.2.2.1 v_.2.2.2.2.2.2.2.2.2.2.2 (wVa dA xx wx crx tx ngx scx Cx lnx (wWh dA wx gx Fx ux (wVa dA xy wy cry ty ngy scy Cy lny (wWh dA wy gy Fy uy [])))))))))) A
abbrev rmAr_quotient : Room := { frames := 4, cells := 0, slots := 0, locals := 127 }
set_option maxRecDepth 100000 in
set_option maxHeartbeats 1000000 in
theorem cAr_quotient (l : Launch) (dC : Nat → ClassId) (dI : Nat → Nat → Nat) (dA : Nat → ClassId) (dS : Nat → Nat) (ar : Nat) (la : Nat) (ra : Nat) (sa : Nat) (qa : Nat) (xR : Nat) (wR : Nat) (crR : Nat) (tR : Int) (ngR : Int) (scR : Int) (CR : Int → Int) (lnR : Int) (gR : Nat) (FR : Int → Int) (uR : Int) (lg : Nat) (LF : Int → Int) (lu : Int) (rg : Nat) (RF : Int → Int) (ru : Int) (qg : Nat) (QF : Int → Int) (qu : Int) (xx : Nat) (wx : Nat) (crx : Nat) (tx : Int) (ngx : Int) (scx : Int) (Cx : Int → Int) (lnx : Int) (gx : Nat) (Fx : Int → Int) (ux : Int) (Nx : Int) (xy : Nat) (wy : Nat) (cry : Nat) (ty : Int) (ngy : Int) (scy : Int) (Cy : Int → Int) (lny : Int) (gy : Nat) (Fy : Int → Int) (uy : Int) (Ny : Int) (ws : Int) (hVx : VV tx ngx scx lnx Cx Nx) (hWx : WR Fx ux Nx) (hVy : VV ty ngy scy lny Cy Ny) (hWy : WR Fy uy Ny) (hws : 0 ≤ ws ∧ ws ≤ 40) (sz : Nat) : Met l yAr_quotient wsAr_quotient rmAr_quotient (PC (dC, dI) vwCl (tyA dA) (XC dS) [.ref ar, .ref xx, .ref xy, .int (iI ws)] (wAr dA ar xR la ra sa qa (wVa dA xR wR crR tR ngR scR CR lnR (wWh dA wR gR FR uR (wWh dA la lg LF lu (wWh dA ra rg RF ru (wWh dA qa qg QF qu (wVa dA xx wx crx tx ngx scx Cx lnx (wWh dA wx gx Fx ux (wVa dA xy wy cry ty ngy scy Cy lny (wWh dA wy gy Fy uy [])))))))))) sz) (qAr_quotient dC dI dA dS ar la ra sa qa xR wR crR tR ngR scR CR lnR gR FR uR lg LF lu rg RF ru qg QF qu xx wx crx tx ngx scx Cx lnx gx Fx ux Nx xy wy cry ty ngy scy Cy lny gy Fy uy Ny ws (va_A (wAr dA ar xR la ra sa qa (wVa dA xR wR crR tR ngR scR CR lnR (wWh dA wR gR FR uR (wWh dA la lg LF lu (wWh dA ra rg RF ru (wWh dA qa qg QF qu (wVa dA xx wx crx tx ngx scx Cx lnx (wWh dA wx gx Fx ux (wVa dA xy wy cry ty ngy scy Cy lny (wWh dA wy gy Fy uy [])))))))))) sz)) 0 0 (va_A (wAr dA ar xR la ra sa qa (wVa dA xR wR crR tR ngR scR CR lnR (wWh dA wR gR FR uR (wWh dA la lg LF lu (wWh dA ra rg RF ru (wWh dA qa qg QF qu (wVa dA xx wx crx tx ngx scx Cx lnx (wWh dA wx gx Fx ux (wVa dA xy wy cry ty ngy scy Cy lny (wWh dA wy gy Fy uy [])))))))))) sz) := by
  refine met_of (cc := prog_2_method_5_code) (maxL := 4) (ret := (some .int)) (Qc := qAr_quotient dC dI dA dS ar la ra sa qa xR wR crR tR ngR scR CR lnR gR FR uR lg LF lu rg RF ru qg QF qu xx wx crx tx ngx scx Cx lnx gx Fx ux Nx xy wy cry ty ngy scy Cy lny gy Fy uy Ny ws) (XC_ok dS) (by decide) rfl (Nat.le_of_ble_eq_true rfl) ?_
  intro p e s m below meth c ls A hx hb hr hml hown hts hlocks hnm hK hP hD hA hX hS hl
  have hl : lv_has ls 4 [(0, .ref ar), (1, .ref xx), (2, .ref xy), (3, .int (iI ws))] := hl
  have hown : s.vm.findClass "MacroReckoner$Arithmetic" = some m.cls := hown
  obtain ⟨H, hH⟩ : ∃ H : Heap, H = s.heap := ⟨_, rfl⟩
  obtain ⟨locs, hlo⟩ : ∃ L : List Loc, L = [] := ⟨_, rfl⟩
  have hP : va_P (dC, dI) vwCl (wAr dA ar xR la ra sa qa (wVa dA xR wR crR tR ngR scR CR lnR (wWh dA wR gR FR uR (wWh dA la lg LF lu (wWh dA ra rg RF ru (wWh dA qa qg QF qu (wVa dA xx wx crx tx ngx scx Cx lnx (wWh dA wx gx Fx ux (wVa dA xy wy cry ty ngy scy Cy lny (wWh dA wy gy Fy uy [])))))))))) H := hH ▸ hP
  have hS : va_S A s.heap H locs := by rw [hH, hlo]; exact hS
  suffices hgo : W p l e rmAr_quotient s m [.ref ar, .ref xx, .ref xy, .int (iI ws)].toArray below meth c H locs 0 0 (MQ below (qAr_quotient dC dI dA dS ar la ra sa qa xR wR crR tR ngR scR CR lnR gR FR uR lg LF lu rg RF ru qg QF qu xx wx crx tx ngx scx Cx lnx gx Fx ux Nx xy wy cry ty ngy scy Cy lny gy Fy uy Ny ws A) [.ref ar, .ref xx, .ref xy, .int (iI ws)].toArray s 0 0 A) (F0 m 0 ls []) by rw [hH, hlo] at hgo; exact hgo
  clear hH hlo
  have hVx0 := hVx
  have hVy0 := hVy
  obtain ⟨htx, hngx, hscx, hlnx, hchx, hx1, hx2, hx3, hx4⟩ := hVx
  have hNx0 := (WR_bd hWx).1
  obtain ⟨hty, hngy, hscy, hlny, hchy, hy1, hy2, hy3, hy4⟩ := hVy
  have hNy0 := (WR_bd hWy).1
  refine lv_aload_n hx hb dAr_quotient_0 rfl (lv_at hl 2 rfl) ?_
  refine va_getN (D := (dC, dI)) (ci := 4) (v := .ref wy) (C := "MacroReckoner$Value") (T := TVa) (N := 6) hx hb hts inVa hown hK hP 15 rfl rfl 1 (by decide) (va_Nw.use rfl (hX.1 ("MacroReckoner$Arithmetic", 69, "MacroReckoner$Value", "whole", "LMacroReckoner$Whole;", "MacroReckoner") (List.mem_of_getElem? (i := 10) rfl))) (fun _ h9 => h9) rfl dAr_quotient_1 ?_
  refine cv_i (va_runV (C := "MacroReckoner$Whole") (As := []) (rest := []) ⟨hx, hb, hml, hown, hts⟩ (cWh_isZero l dC dI dA wy gy Fy uy Ny (by exact hWy) H.size) (cwV 0 hts (gdV wt3_126 wt3_23 wt3_24 wt1_5 wt3_25) rfl rfl rfl ⟨rfl, by decide, by decide, by decide +kernel⟩ ⟨by decide, by decide⟩) (preV (q := ("MacroReckoner$Whole", TWh, 2)) hK hP hD hS hA XN_ok trivial [17, 18] rfl rfl 0 rfl rfl) rfl rfl hl.1 rfl (lv_room (Nat.le_of_ble_eq_true rfl)) dAr_quotient_4 ⟨Nat.zero_le _, Nat.zero_le _⟩) hP hD hS hA [17, 18] [0, 1, 2, 3, 4, 5, 6, 7, 8, 9, 10, 11, 12, 13, 14, 15, 16] rfl (fun v_ => wAr dA ar xR la ra sa qa (wVa dA xR wR crR tR ngR scR CR lnR (wWh dA wR gR FR uR (wWh dA la lg LF lu (wWh dA ra rg RF ru (wWh dA qa qg QF qu (wVa dA xx wx crx tx ngx scx Cx lnx (wWh dA wx gx Fx ux (wVa dA xy wy cry ty ngy scy Cy lny (wWh dA wy gy Fy uy [])))))))))) (fun _ => rfl) (fun _ => rfl) (fun _ => rfl) (fun _ => rfl) (fun r4 u_ H locs hq4 hP hD hS => ?_)
  have hP : va_P (dC, dI) vwCl (wAr dA ar xR la ra sa qa (wVa dA xR wR crR tR ngR scR CR lnR (wWh dA wR gR FR uR (wWh dA la lg LF lu (wWh dA ra rg RF ru (wWh dA qa qg QF qu (wVa dA xx wx crx tx ngx scx Cx lnx (wWh dA wx gx Fx ux (wVa dA xy wy cry ty ngy scy Cy lny (wWh dA wy gy Fy uy [])))))))))) H := hP
  have hD : va_D A (wAr dA ar xR la ra sa qa (wVa dA xR wR crR tR ngR scR CR lnR (wWh dA wR gR FR uR (wWh dA la lg LF lu (wWh dA ra rg RF ru (wWh dA qa qg QF qu (wVa dA xx wx crx tx ngx scx Cx lnx (wWh dA wx gx Fx ux (wVa dA xy wy cry ty ngy scy Cy lny (wWh dA wy gy Fy uy [])))))))))) := hD
  have hq4 : (r4 = 1 ∧ Ny = 0) ∨ (r4 = 0 ∧ Ny ≠ 0) := hq4
  refine iv_if_eq (tgt := 13) hx hb dAr_quotient_7 (by decide) ⟨by omega, by omega⟩ (fun hc7 => ?_) (fun hc7 => ?_)
  · refine lv_aload_n hx hb dAr_quotient_13 rfl (lv_at hl 0 rfl) ?_
    refine lv_aload_n hx hb dAr_quotient_14 rfl (lv_at hl 1 rfl) ?_
    refine lv_aload_n hx hb dAr_quotient_15 rfl (lv_at hl 2 rfl) ?_
    refine lv_iload_n hx hb dAr_quotient_16 rfl (lv_at hl 3 rfl) ?_
    refine cv_v (va_runV (C := "MacroReckoner$Arithmetic") (As := [.ref xx, .ref xy, .int (iI ws)]) (rest := []) ⟨hx, hb, hml, hown, hts⟩ (cAr_align l dC dI dA dS ar la ra sa qa xR lg LF lu rg RF ru xx wx crx tx ngx scx Cx lnx gx Fx ux Nx xy wy cry ty ngy scy Cy lny gy Fy uy Ny ws (by exact hVx0) (by exact hWx) (by exact hVy0) (by exact hWy) (by exact hws) H.size) (cwV 3 hts (gdV wt3_127 wt3_129 ws2_2 wt1_6 wt3_130) rfl rfl rfl ⟨rfl, by decide, by decide, by decide +kernel⟩ ⟨by decide, by decide⟩) (preV (q := ("MacroReckoner$Arithmetic", TAr, 5)) hK hP hD hS hA (XC_ok dS) hX [0, 5, 6, 7, 8, 11, 12, 13, 14, 15, 16, 17, 18] rfl rfl 0 rfl rfl) rfl rfl hl.1 rfl (lv_room (Nat.le_of_ble_eq_true rfl)) dAr_quotient_17 ⟨Nat.zero_le _, Nat.zero_le _⟩) hP hD hS hA [0, 5, 6, 7, 8, 11, 12, 13, 14, 15, 16, 17, 18] [1, 2, 3, 4, 9, 10] rfl (fun v_ => wAr dA ar xR la ra sa qa (wVa dA xR wR crR tR ngR scR CR lnR (wWh dA wR gR FR uR (wWh dA la lg v_.1 v_.2.1 (wWh dA ra rg v_.2.2.1 v_.2.2.2 (wWh dA qa qg QF qu (wVa dA xx wx crx tx ngx scx Cx lnx (wWh dA wx gx Fx ux (wVa dA xy wy cry ty ngy scy Cy lny (wWh dA wy gy Fy uy [])))))))))) (fun _ => rfl) (fun _ => rfl) (fun _ => rfl) (fun _ => rfl) (fun u_ H locs hq17 hP hD hS => ?_)
    obtain ⟨LA, lua, RA, rua⟩ := u_
    have hP : va_P (dC, dI) vwCl (wAr dA ar xR la ra sa qa (wVa dA xR wR crR tR ngR scR CR lnR (wWh dA wR gR FR uR (wWh dA la lg LA lua (wWh dA ra rg RA rua (wWh dA qa qg QF qu (wVa dA xx wx crx tx ngx scx Cx lnx (wWh dA wx gx Fx ux (wVa dA xy wy cry ty ngy scy Cy lny (wWh dA wy gy Fy uy [])))))))))) H := hP
    have hD : va_D A (wAr dA ar xR la ra sa qa (wVa dA xR wR crR tR ngR scR CR lnR (wWh dA wR gR FR uR (wWh dA la lg LA lua (wWh dA ra rg RA rua (wWh dA qa qg QF qu (wVa dA xx wx crx tx ngx scx Cx lnx (wWh dA wx gx Fx ux (wVa dA xy wy cry ty ngy scy Cy lny (wWh dA wy gy Fy uy [])))))))))) := hD
    have hq17 : WR LA lua (Nx * PW 10 (max (ws + scy - scx) 0)) ∧ WR RA rua (Ny * PW 10 (max (-(ws + scy - scx)) 0)) := hq17
    refine lv_aload_n hx hb dAr_quotient_20 rfl (lv_at hl 0 rfl) ?_
    refine va_get (D := (dC, dI)) (ci := 0) (v := .ref la) (C := "MacroReckoner$Arithmetic") (T := TAr) (N := 5) hx hb hts inAr hown hK hP 0 rfl rfl 1 (by decide) (hts _ wt1_143) (fun _ h9 => h9) rfl dAr_quotient_21 ?_
    refine lv_aload_n hx hb dAr_quotient_24 rfl (lv_at hl 0 rfl) ?_
    refine va_get (D := (dC, dI)) (ci := 0) (v := .ref ra) (C := "MacroReckoner$Arithmetic") (T := TAr) (N := 5) hx hb hts inAr hown hK hP 0 rfl rfl 2 (by decide) (hts _ wt1_144) (fun _ h9 => h9) rfl dAr_quotient_25 ?_
    refine lv_aload_n hx hb dAr_quotient_28 rfl (lv_at hl 0 rfl) ?_
    refine va_get (D := (dC, dI)) (ci := 0) (v := .ref qa) (C := "MacroReckoner$Arithmetic") (T := TAr) (N := 5) hx hb hts inAr hown hK hP 0 rfl rfl 4 (by decide) (hts _ wt1_146) (fun _ h9 => h9) rfl dAr_quotient_29 ?_
    refine cv_v (va_runV (C := "MacroReckoner$Whole") (As := [.ref ra, .ref qa]) (rest := []) ⟨hx, hb, hml, hown, hts⟩ (cWh_divideBy l dC dI dA dS la lg LA lua (Nx * PW 10 (max (ws + scy - scx) 0)) ra rg RA rua (Ny * PW 10 (max (-(ws + scy - scx)) 0)) qa qg QF qu (by exact hq17.1) (by exact hq17.2) (by exact Int.mul_pos (by omega) (PW_pos (by decide) _)) (by exact (w60 hNx0 hx4 (by omega) (by omega)).2.2.1) H.size) (cwV 2 hts (gdV wt3_131 wt3_132 wt3_133 wt1_5 wt3_134) rfl rfl rfl ⟨rfl, by decide, by decide, by decide +kernel⟩ ⟨by decide, by decide⟩) (preV (q := ("MacroReckoner$Whole", TWh, 2)) hK hP hD hS hA (XC_ok dS) hX [5, 6, 7, 8, 9, 10] rfl rfl 0 rfl rfl) rfl rfl hl.1 rfl (lv_room (Nat.le_of_ble_eq_true rfl)) dAr_quotient_32 ⟨Nat.zero_le _, Nat.zero_le _⟩) hP hD hS hA [5, 6, 7, 8, 9, 10] [0, 1, 2, 3, 4, 11, 12, 13, 14, 15, 16, 17, 18] rfl (fun v_ => wAr dA ar xR la ra sa qa (wVa dA xR wR crR tR ngR scR CR lnR (wWh dA wR gR FR uR (wWh dA la lg v_.1 v_.2.1 (wWh dA ra rg v_.2.2.1 v_.2.2.2.1 (wWh dA qa qg v_.2.2.2.2.1 v_.2.2.2.2.2 (wVa dA xx wx crx tx ngx scx Cx lnx (wWh dA wx gx Fx ux (wVa dA xy wy cry ty ngy scy Cy lny (wWh dA wy gy Fy uy [])))))))))) (fun _ => rfl) (fun _ => rfl) (fun _ => rfl) (fun _ => rfl) (fun u_ H locs hq32 hP hD hS => ?_)
    obtain ⟨LB, lub, RB, rub, QB, qub⟩ := u_
    have hP : va_P (dC, dI) vwCl (wAr dA ar xR la ra sa qa (wVa dA xR wR crR tR ngR scR CR lnR (wWh dA wR gR FR uR (wWh dA la lg LB lub (wWh dA ra rg RB rub (wWh dA qa qg QB qub (wVa dA xx wx crx tx ngx scx Cx lnx (wWh dA wx gx Fx ux (wVa dA xy wy cry ty ngy scy Cy lny (wWh dA wy gy Fy uy [])))))))))) H := hP
    have hD : va_D A (wAr dA ar xR la ra sa qa (wVa dA xR wR crR tR ngR scR CR lnR (wWh dA wR gR FR uR (wWh dA la lg LB lub (wWh dA ra rg RB rub (wWh dA qa qg QB qub (wVa dA xx wx crx tx ngx scx Cx lnx (wWh dA wx gx Fx ux (wVa dA xy wy cry ty ngy scy Cy lny (wWh dA wy gy Fy uy [])))))))))) := hD
    have hq32 : WR LB lub ((Nx * PW 10 (max (ws + scy - scx) 0)) % (Ny * PW 10 (max (-(ws + scy - scx)) 0))) ∧ WR RB rub (Ny * PW 10 (max (-(ws + scy - scx)) 0)) ∧ WR QB qub ((Nx * PW 10 (max (ws + scy - scx) 0)) / (Ny * PW 10 (max (-(ws + scy - scx)) 0))) := hq32
    refine lv_aload_n hx hb dAr_quotient_35 rfl (lv_at hl 0 rfl) ?_
    refine lv_aload_n hx hb dAr_quotient_36 rfl (lv_at hl 0 rfl) ?_
    refine va_get (D := (dC, dI)) (ci := 0) (v := .ref qa) (C := "MacroReckoner$Arithmetic") (T := TAr) (N := 5) hx hb hts inAr hown hK hP 0 rfl rfl 4 (by decide) (hts _ wt1_146) (fun _ h9 => h9) rfl dAr_quotient_37 ?_
    refine lv_aload_n hx hb dAr_quotient_40 rfl (lv_at hl 1 rfl) ?_
    refine va_getN (D := (dC, dI)) (ci := 4) (v := .int (iI ngx)) (C := "MacroReckoner$Value") (T := TVa) (N := 6) hx hb hts inVa hown hK hP 11 rfl rfl 2 (by decide) (va_Nw.use rfl (hX.1 ("MacroReckoner$Arithmetic", 31, "MacroReckoner$Value", "negative", "Z", "MacroReckoner") (List.mem_of_getElem? (i := 13) rfl))) (fun _ h9 => h9) rfl dAr_quotient_41 ?_
    refine lv_aload_n hx hb dAr_quotient_44 rfl (lv_at hl 2 rfl) ?_
    refine va_getN (D := (dC, dI)) (ci := 4) (v := .int (iI ngy)) (C := "MacroReckoner$Value") (T := TVa) (N := 6) hx hb hts inVa hown hK hP 15 rfl rfl 2 (by decide) (va_Nw.use rfl (hX.1 ("MacroReckoner$Arithmetic", 31, "MacroReckoner$Value", "negative", "Z", "MacroReckoner") (List.mem_of_getElem? (i := 13) rfl))) (fun _ h9 => h9) rfl dAr_quotient_45 ?_
    refine iv_icmp_eq (tgt := 55) hx hb dAr_quotient_48 (by decide) ⟨by omega, by omega⟩ ⟨by omega, by omega⟩ (fun hc48 => ?_) (fun hc48 => ?_)
    · refine lv_iconst (v := iI 0) hx hb dAr_quotient_55 rfl ?_
      refine lv_iload_n hx hb dAr_quotient_56 rfl (lv_at hl 3 rfl) ?_
      refine cv_i (va_runV (C := "MacroReckoner$Arithmetic") (As := [.ref qa, .int (iI 0), .int (iI ws)]) (rest := []) ⟨hx, hb, hml, hown, hts⟩ (cAr_finish l dC dI dA dS ar la ra sa qa xR wR crR tR ngR scR CR lnR gR FR uR qa qg QB qub (Nx * PW 10 (max (ws + scy - scx) 0) / (Ny * PW 10 (max (-(ws + scy - scx)) 0))) 0 ws (by exact hq32.2.2) (by omega) H.size) (cwV 3 hts (gdV wt3_83 wt3_85 ws2_0 wt1_6 wt3_86) rfl rfl rfl ⟨rfl, by decide, by decide, by decide +kernel⟩ ⟨by decide, by decide⟩) (preV (q := ("MacroReckoner$Arithmetic", TAr, 5)) hK hP hD hS hA (XC_ok dS) hX [0, 1, 2, 3, 4, 9, 10] rfl rfl 0 rfl rfl) rfl rfl hl.1 rfl (lv_room (Nat.le_of_ble_eq_true rfl)) dAr_quotient_57 ⟨Nat.zero_le _, Nat.zero_le _⟩) hP hD hS hA [0, 1, 2, 3, 4, 9, 10] [5, 6, 7, 8, 11, 12, 13, 14, 15, 16, 17, 18] rfl (fun v_ => wAr dA ar xR la ra sa qa (wVa dA xR wR crR v_.1 v_.2.1 v_.2.2.1 CR v_.2.2.2.1 (wWh dA wR gR v_.2.2.2.2.1 v_.2.2.2.2.2 (wWh dA la lg LB lub (wWh dA ra rg RB rub (wWh dA qa qg QB qub (wVa dA xx wx crx tx ngx scx Cx lnx (wWh dA wx gx Fx ux (wVa dA xy wy cry ty ngy scy Cy lny (wWh dA wy gy Fy uy [])))))))))) (fun _ => rfl) (fun _ => rfl) (fun _ => rfl) (fun _ => rfl) (fun r57 u_ H locs hq57 hP hD hS => ?_)
      obtain ⟨t1_57, ng1_57, sc1_57, ln1_57, F1_57, u1_57⟩ := u_
      have hP : va_P (dC, dI) vwCl (wAr dA ar xR la ra sa qa (wVa dA xR wR crR t1_57 ng1_57 sc1_57 CR ln1_57 (wWh dA wR gR F1_57 u1_57 (wWh dA la lg LB lub (wWh dA ra rg RB rub (wWh dA qa qg QB qub (wVa dA xx wx crx tx ngx scx Cx lnx (wWh dA wx gx Fx ux (wVa dA xy wy cry ty ngy scy Cy lny (wWh dA wy gy Fy uy [])))))))))) H := hP
      have hD : va_D A (wAr dA ar xR la ra sa qa (wVa dA xR wR crR t1_57 ng1_57 sc1_57 CR ln1_57 (wWh dA wR gR F1_57 u1_57 (wWh dA la lg LB lub (wWh dA ra rg RB rub (wWh dA qa qg QB qub (wVa dA xx wx crx tx ngx scx Cx lnx (wWh dA wx gx Fx ux (wVa dA xy wy cry ty ngy scy Cy lny (wWh dA wy gy Fy uy [])))))))))) := hD
      have hq57 : RES r57 (sg 0 (Nx * PW 10 (max (ws + scy - scx) 0) / (Ny * PW 10 (max (-(ws + scy - scx)) 0)))) ws t1_57 ng1_57 sc1_57 ln1_57 F1_57 u1_57 := hq57
      exact rt_i hx hb hr hlocks hK hS dAr_quotient_60 (t1_57, ng1_57, sc1_57, ln1_57, F1_57, u1_57, LB, lub, RB, rub, QB, qub) hP hD (show (Ny = 0 ∧ r57 = -5) ∨ (Ny ≠ 0 ∧ RES r57 (sg (if ngx = ngy then 0 else 1) (Nx * PW 10 (max (ws + scy - scx) 0) / (Ny * PW 10 (max (-(ws + scy - scx)) 0)))) ws t1_57 ng1_57 sc1_57 ln1_57 F1_57 u1_57) from by refine Or.inr ⟨by omega, ?_⟩; first | (rw [if_pos hc48]; exact hq57) | (rw [if_neg hc48]; exact hq57))
    · refine lv_iconst (v := iI 1) hx hb dAr_quotient_51 rfl ?_
      refine lv_goto (tgt := 56) hx hb dAr_quotient_52 (by decide) ?_
      refine lv_iload_n hx hb dAr_quotient_56 rfl (lv_at hl 3 rfl) ?_
      refine cv_i (va_runV (C := "MacroReckoner$Arithmetic") (As := [.ref qa, .int (iI 1), .int (iI ws)]) (rest := []) ⟨hx, hb, hml, hown, hts⟩ (cAr_finish l dC dI dA dS ar la ra sa qa xR wR crR tR ngR scR CR lnR gR FR uR qa qg QB qub (Nx * PW 10 (max (ws + scy - scx) 0) / (Ny * PW 10 (max (-(ws + scy - scx)) 0))) 1 ws (by exact hq32.2.2) (by omega) H.size) (cwV 3 hts (gdV wt3_83 wt3_85 ws2_0 wt1_6 wt3_86) rfl rfl rfl ⟨rfl, by decide, by decide, by decide +kernel⟩ ⟨by decide, by decide⟩) (preV (q := ("MacroReckoner$Arithmetic", TAr, 5)) hK hP hD hS hA (XC_ok dS) hX [0, 1, 2, 3, 4, 9, 10] rfl rfl 0 rfl rfl) rfl rfl hl.1 rfl (lv_room (Nat.le_of_ble_eq_true rfl)) dAr_quotient_57 ⟨Nat.zero_le _, Nat.zero_le _⟩) hP hD hS hA [0, 1, 2, 3, 4, 9, 10] [5, 6, 7, 8, 11, 12, 13, 14, 15, 16, 17, 18] rfl (fun v_ => wAr dA ar xR la ra sa qa (wVa dA xR wR crR v_.1 v_.2.1 v_.2.2.1 CR v_.2.2.2.1 (wWh dA wR gR v_.2.2.2.2.1 v_.2.2.2.2.2 (wWh dA la lg LB lub (wWh dA ra rg RB rub (wWh dA qa qg QB qub (wVa dA xx wx crx tx ngx scx Cx lnx (wWh dA wx gx Fx ux (wVa dA xy wy cry ty ngy scy Cy lny (wWh dA wy gy Fy uy [])))))))))) (fun _ => rfl) (fun _ => rfl) (fun _ => rfl) (fun _ => rfl) (fun r57 u_ H locs hq57 hP hD hS => ?_)
      obtain ⟨t1_57, ng1_57, sc1_57, ln1_57, F1_57, u1_57⟩ := u_
      have hP : va_P (dC, dI) vwCl (wAr dA ar xR la ra sa qa (wVa dA xR wR crR t1_57 ng1_57 sc1_57 CR ln1_57 (wWh dA wR gR F1_57 u1_57 (wWh dA la lg LB lub (wWh dA ra rg RB rub (wWh dA qa qg QB qub (wVa dA xx wx crx tx ngx scx Cx lnx (wWh dA wx gx Fx ux (wVa dA xy wy cry ty ngy scy Cy lny (wWh dA wy gy Fy uy [])))))))))) H := hP
      have hD : va_D A (wAr dA ar xR la ra sa qa (wVa dA xR wR crR t1_57 ng1_57 sc1_57 CR ln1_57 (wWh dA wR gR F1_57 u1_57 (wWh dA la lg LB lub (wWh dA ra rg RB rub (wWh dA qa qg QB qub (wVa dA xx wx crx tx ngx scx Cx lnx (wWh dA wx gx Fx ux (wVa dA xy wy cry ty ngy scy Cy lny (wWh dA wy gy Fy uy [])))))))))) := hD
      have hq57 : RES r57 (sg 1 (Nx * PW 10 (max (ws + scy - scx) 0) / (Ny * PW 10 (max (-(ws + scy - scx)) 0)))) ws t1_57 ng1_57 sc1_57 ln1_57 F1_57 u1_57 := hq57
      exact rt_i hx hb hr hlocks hK hS dAr_quotient_60 (t1_57, ng1_57, sc1_57, ln1_57, F1_57, u1_57, LB, lub, RB, rub, QB, qub) hP hD (show (Ny = 0 ∧ r57 = -5) ∨ (Ny ≠ 0 ∧ RES r57 (sg (if ngx = ngy then 0 else 1) (Nx * PW 10 (max (ws + scy - scx) 0) / (Ny * PW 10 (max (-(ws + scy - scx)) 0)))) ws t1_57 ng1_57 sc1_57 ln1_57 F1_57 u1_57) from by refine Or.inr ⟨by omega, ?_⟩; first | (rw [if_pos hc48]; exact hq57) | (rw [if_neg hc48]; exact hq57))
  · refine lv_bipush (v := iI (-5)) hx hb dAr_quotient_10 (by decide) ?_
    exact rt_i hx hb hr hlocks hK hS dAr_quotient_12 (tR, ngR, scR, lnR, FR, uR, LF, lu, RF, ru, QF, qu) hP hD (show (Ny = 0 ∧ (-5) = -5) ∨ (Ny ≠ 0 ∧ RES (-5) (sg (if ngx = ngy then 0 else 1) (Nx * PW 10 (max (ws + scy - scx) 0) / (Ny * PW 10 (max (-(ws + scy - scx)) 0)))) ws tR ngR scR lnR FR uR) from by exact Or.inl (by omega))

theorem dAr_remainder_0 : decode prog_2_method_6_code 0 = .ok (.aload_n 2, 1) := by decide +kernel
theorem dAr_remainder_1 : decode prog_2_method_6_code 1 = .ok (.getfield 69, 3) := by decide +kernel
theorem dAr_remainder_4 : decode prog_2_method_6_code 4 = .ok (.invokevirtual 80, 3) := by decide +kernel
theorem dAr_remainder_7 : decode prog_2_method_6_code 7 = .ok (.ifCond .eq 6, 3) := by decide +kernel
theorem dAr_remainder_10 : decode prog_2_method_6_code 10 = .ok (.bipush (-5), 2) := by decide +kernel
theorem dAr_remainder_12 : decode prog_2_method_6_code 12 = .ok (.ireturn, 1) := by decide +kernel
theorem dAr_remainder_13 : decode prog_2_method_6_code 13 = .ok (.aload_n 1, 1) := by decide +kernel
theorem dAr_remainder_14 : decode prog_2_method_6_code 14 = .ok (.getfield 56, 3) := by decide +kernel
theorem dAr_remainder_17 : decode prog_2_method_6_code 17 = .ok (.iload_n 3, 1) := by decide +kernel
theorem dAr_remainder_18 : decode prog_2_method_6_code 18 = .ok (.aload_n 2, 1) := by decide +kernel
theorem dAr_remainder_19 : decode prog_2_method_6_code 19 = .ok (.getfield 56, 3) := by decide +kernel
theorem dAr_remainder_22 : decode prog_2_method_6_code 22 = .ok (.iadd, 1) := by decide +kernel
theorem dAr_remainder_23 : decode prog_2_method_6_code 23 = .ok (.invokestatic 60, 3) := by decide +kernel
theorem dAr_remainder_26 : decode prog_2_method_6_code 26 = .ok (.istore 4, 2) := by decide +kernel
theorem dAr_remainder_28 : decode prog_2_method_6_code 28 = .ok (.iload 4, 2) := by decide +kernel
theorem dAr_remainder_30 : decode prog_2_method_6_code 30 = .ok (.bipush 40, 2) := by decide +kernel
theorem dAr_remainder_32 : decode prog_2_method_6_code 32 = .ok (.if_icmp .le 6, 3) := by decide +kernel
theorem dAr_remainder_35 : decode prog_2_method_6_code 35 = .ok (.bipush (-7), 2) := by decide +kernel
theorem dAr_remainder_37 : decode prog_2_method_6_code 37 = .ok (.ireturn, 1) := by decide +kernel
theorem dAr_remainder_38 : decode prog_2_method_6_code 38 = .ok (.aload_n 0, 1) := by decide +kernel
theorem dAr_remainder_39 : decode prog_2_method_6_code 39 = .ok (.aload_n 1, 1) := by decide +kernel
theorem dAr_remainder_40 : decode prog_2_method_6_code 40 = .ok (.aload_n 2, 1) := by decide +kernel
theorem dAr_remainder_41 : decode prog_2_method_6_code 41 = .ok (.iload_n 3, 1) := by decide +kernel
theorem dAr_remainder_42 : decode prog_2_method_6_code 42 = .ok (.invokevirtual 84, 3) := by decide +kernel
theorem dAr_remainder_45 : decode prog_2_method_6_code 45 = .ok (.aload_n 0, 1) := by decide +kernel
theorem dAr_remainder_46 : decode prog_2_method_6_code 46 = .ok (.getfield 12, 3) := by decide +kernel
theorem dAr_remainder_49 : decode prog_2_method_6_code 49 = .ok (.aload_n 0, 1) := by decide +kernel
theorem dAr_remainder_50 : decode prog_2_method_6_code 50 = .ok (.getfield 18, 3) := by decide +kernel
theorem dAr_remainder_53 : decode prog_2_method_6_code 53 = .ok (.aload_n 0, 1) := by decide +kernel
theorem dAr_remainder_54 : decode prog_2_method_6_code 54 = .ok (.getfield 24, 3) := by decide +kernel
theorem dAr_remainder_57 : decode prog_2_method_6_code 57 = .ok (.invokevirtual 88, 3) := by decide +kernel
theorem dAr_remainder_60 : decode prog_2_method_6_code 60 = .ok (.aload_n 0, 1) := by decide +kernel
theorem dAr_remainder_61 : decode prog_2_method_6_code 61 = .ok (.aload_n 0, 1) := by decide +kernel
theorem dAr_remainder_62 : decode prog_2_method_6_code 62 = .ok (.getfield 12, 3) := by decide +kernel
theorem dAr_remainder_65 : decode prog_2_method_6_code 65 = .ok (.aload_n 1, 1) := by decide +kernel
theorem dAr_remainder_66 : decode prog_2_method_6_code 66 = .ok (.getfield 31, 3) := by decide +kernel
theorem dAr_remainder_69 : decode prog_2_method_6_code 69 = .ok (.iload 4, 2) := by decide +kernel
theorem dAr_remainder_71 : decode prog_2_method_6_code 71 = .ok (.invokevirtual 49, 3) := by decide +kernel
theorem dAr_remainder_74 : decode prog_2_method_6_code 74 = .ok (.ireturn, 1) := by decide +kernel
abbrev qAr_remainder (dC : Nat → ClassId) (dI : Nat → Nat → Nat) (dA : Nat → ClassId) (dS : Nat → Nat) (ar : Nat) (la : Nat) (ra : Nat) (sa : Nat) (qa : Nat) (xR : Nat) (wR : Nat) (crR : Nat) (tR : Int) (ngR : Int) (scR : Int) (CR : Int → Int) (lnR : Int) (gR : Nat) (FR : Int → Int) (uR : Int) (lg : Nat) (LF : Int → Int) (lu : Int) (rg : Nat) (RF : Int → Int) (ru : Int) (qg : Nat) (QF : Int → Int) (qu : Int) (xx : Nat) (wx : Nat) (crx : Nat) (tx : Int) (ngx : Int) (scx : Int) (Cx : Int → Int) (lnx : Int) (gx : Nat) (Fx : Int → Int) (ux : Int) (Nx : Int) (xy : Nat) (wy : Nat) (cry : Nat) (ty : Int) (ngy : Int) (scy : Int) (Cy : Int → Int) (lny : Int) (gy : Nat) (Fy : Int → Int) (uy : Int) (Ny : Int) (ws : Int) (A : Nat → Prop) : Array Value → State → Outcome → State → Prop := QI (dC, dI) vwCl (tyA dA) (fun (r : Int) (v_ : Int × Int × Int × Int × (Int → Int) × Int × (Int → Int) × Int × (Int → Int) × Int × (Int → Int) × Int) => (Ny = 0 ∧ r = -5) ∨ (Ny ≠ 0 ∧ 40 < max scx (ws + scy) ∧ r = -7) ∨ (Ny ≠ 0 ∧ max scx (ws + scy) ≤ 40 ∧ RES r (sg ngx (Nx * PW 10 (max (ws + scy - scx) 0) % (Ny * PW 10 (max (-(ws + scy - scx)) 0)))) (max scx (ws + scy)) v_.1 v_.2.1 v_.2.2.1 v_.2.2.2.1 v_.2.2.2.2.1 v_.2.2.2.2.2.1)) (fun (v_ : Int × Int × Int × Int × (Int → Int) × Int × (Int → Int) × Int × (Int → Int) × Int × (Int → Int) × Int) => wAr dA ar xR la ra sa qa (wVa dA xR wR crR v_.1 v_.2.1 v_.2.2.1 CR v_.2.2.2.1 (wWh dA wR gR v_.2.2.2.2.1 v_.2.2.2.2.2.1 (wWh dA la lg v_.2.2.2.2.2.2.1 v_.2.2.2.2.2.2.2.1 (wWh dA ra rg v_.2.2.2.2.2.2.2.2.1 v_.2.2.2.2.2.2.2.2.2.1 (wWh dA qa qg v_.2.2.2.2.2.2.2.2.2.2.1 v_.2.2.2.2.2.2.2.2.2.2.2 (wVa dA xx wx crx tx ngx scx Cx lnx (wWh dA wx gx Fx ux (wVa dA xy wy cry ty ngy scy Cy lny (wWh dA wy gy Fy uy [])))))))))) A
abbrev rmAr_remainder : Room := { frames := 4, cells := 0, slots := 0, locals := 127 }
set_option maxRecDepth 100000 in
set_option maxHeartbeats 1000000 in
theorem cAr_remainder (l : Launch) (dC : Nat → ClassId) (dI : Nat → Nat → Nat) (dA : Nat → ClassId) (dS : Nat → Nat) (ar : Nat) (la : Nat) (ra : Nat) (sa : Nat) (qa : Nat) (xR : Nat) (wR : Nat) (crR : Nat) (tR : Int) (ngR : Int) (scR : Int) (CR : Int → Int) (lnR : Int) (gR : Nat) (FR : Int → Int) (uR : Int) (lg : Nat) (LF : Int → Int) (lu : Int) (rg : Nat) (RF : Int → Int) (ru : Int) (qg : Nat) (QF : Int → Int) (qu : Int) (xx : Nat) (wx : Nat) (crx : Nat) (tx : Int) (ngx : Int) (scx : Int) (Cx : Int → Int) (lnx : Int) (gx : Nat) (Fx : Int → Int) (ux : Int) (Nx : Int) (xy : Nat) (wy : Nat) (cry : Nat) (ty : Int) (ngy : Int) (scy : Int) (Cy : Int → Int) (lny : Int) (gy : Nat) (Fy : Int → Int) (uy : Int) (Ny : Int) (ws : Int) (hVx : VV tx ngx scx lnx Cx Nx) (hWx : WR Fx ux Nx) (hVy : VV ty ngy scy lny Cy Ny) (hWy : WR Fy uy Ny) (hws : 0 ≤ ws ∧ ws ≤ 40) (sz : Nat) : Met l yAr_remainder wsAr_remainder rmAr_remainder (PC (dC, dI) vwCl (tyA dA) (XC dS) [.ref ar, .ref xx, .ref xy, .int (iI ws)] (wAr dA ar xR la ra sa qa (wVa dA xR wR crR tR ngR scR CR lnR (wWh dA wR gR FR uR (wWh dA la lg LF lu (wWh dA ra rg RF ru (wWh dA qa qg QF qu (wVa dA xx wx crx tx ngx scx Cx lnx (wWh dA wx gx Fx ux (wVa dA xy wy cry ty ngy scy Cy lny (wWh dA wy gy Fy uy [])))))))))) sz) (qAr_remainder dC dI dA dS ar la ra sa qa xR wR crR tR ngR scR CR lnR gR FR uR lg LF lu rg RF ru qg QF qu xx wx crx tx ngx scx Cx lnx gx Fx ux Nx xy wy cry ty ngy scy Cy lny gy Fy uy Ny ws (va_A (wAr dA ar xR la ra sa qa (wVa dA xR wR crR tR ngR scR CR lnR (wWh dA wR gR FR uR (wWh dA la lg LF lu (wWh dA ra rg RF ru (wWh dA qa qg QF qu (wVa dA xx wx crx tx ngx scx Cx lnx (wWh dA wx gx Fx ux (wVa dA xy wy cry ty ngy scy Cy lny (wWh dA wy gy Fy uy [])))))))))) sz)) 0 0 (va_A (wAr dA ar xR la ra sa qa (wVa dA xR wR crR tR ngR scR CR lnR (wWh dA wR gR FR uR (wWh dA la lg LF lu (wWh dA ra rg RF ru (wWh dA qa qg QF qu (wVa dA xx wx crx tx ngx scx Cx lnx (wWh dA wx gx Fx ux (wVa dA xy wy cry ty ngy scy Cy lny (wWh dA wy gy Fy uy [])))))))))) sz) := by
  refine met_of (cc := prog_2_method_6_code) (maxL := 5) (ret := (some .int)) (Qc := qAr_remainder dC dI dA dS ar la ra sa qa xR wR crR tR ngR scR CR lnR gR FR uR lg LF lu rg RF ru qg QF qu xx wx crx tx ngx scx Cx lnx gx Fx ux Nx xy wy cry ty ngy scy Cy lny gy Fy uy Ny ws) (XC_ok dS) (by decide) rfl (Nat.le_of_ble_eq_true rfl) ?_
  intro p e s m below meth c ls A hx hb hr hml hown hts hlocks hnm hK hP hD hA hX hS hl
  have hl : lv_has ls 5 [(0, .ref ar), (1, .ref xx), (2, .ref xy), (3, .int (iI ws))] := hl
  have hown : s.vm.findClass "MacroReckoner$Arithmetic" = some m.cls := hown
  obtain ⟨H, hH⟩ : ∃ H : Heap, H = s.heap := ⟨_, rfl⟩
  obtain ⟨locs, hlo⟩ : ∃ L : List Loc, L = [] := ⟨_, rfl⟩
  have hP : va_P (dC, dI) vwCl (wAr dA ar xR la ra sa qa (wVa dA xR wR crR tR ngR scR CR lnR (wWh dA wR gR FR uR (wWh dA la lg LF lu (wWh dA ra rg RF ru (wWh dA qa qg QF qu (wVa dA xx wx crx tx ngx scx Cx lnx (wWh dA wx gx Fx ux (wVa dA xy wy cry ty ngy scy Cy lny (wWh dA wy gy Fy uy [])))))))))) H := hH ▸ hP
  have hS : va_S A s.heap H locs := by rw [hH, hlo]; exact hS
  suffices hgo : W p l e rmAr_remainder s m [.ref ar, .ref xx, .ref xy, .int (iI ws)].toArray below meth c H locs 0 0 (MQ below (qAr_remainder dC dI dA dS ar la ra sa qa xR wR crR tR ngR scR CR lnR gR FR uR lg LF lu rg RF ru qg QF qu xx wx crx tx ngx scx Cx lnx gx Fx ux Nx xy wy cry ty ngy scy Cy lny gy Fy uy Ny ws A) [.ref ar, .ref xx, .ref xy, .int (iI ws)].toArray s 0 0 A) (F0 m 0 ls []) by rw [hH, hlo] at hgo; exact hgo
  clear hH hlo
  have hVx0 := hVx
  have hVy0 := hVy
  obtain ⟨htx, hngx, hscx, hlnx, hchx, hx1, hx2, hx3, hx4⟩ := hVx
  have hNx0 := (WR_bd hWx).1
  obtain ⟨hty, hngy, hscy, hlny, hchy, hy1, hy2, hy3, hy4⟩ := hVy
  have hNy0 := (WR_bd hWy).1
  refine lv_aload_n hx hb dAr_remainder_0 rfl (lv_at hl 2 rfl) ?_
  refine va_getN (D := (dC, dI)) (ci := 4) (v := .ref wy) (C := "MacroReckoner$Value") (T := TVa) (N := 6) hx hb hts inVa hown hK hP 15 rfl rfl 1 (by decide) (va_Nw.use rfl (hX.1 ("MacroReckoner$Arithmetic", 69, "MacroReckoner$Value", "whole", "LMacroReckoner$Whole;", "MacroReckoner") (List.mem_of_getElem? (i := 10) rfl))) (fun _ h9 => h9) rfl dAr_remainder_1 ?_
  refine cv_i (va_runV (C := "MacroReckoner$Whole") (As := []) (rest := []) ⟨hx, hb, hml, hown, hts⟩ (cWh_isZero l dC dI dA wy gy Fy uy Ny (by exact hWy) H.size) (cwV 0 hts (gdV wt3_126 wt3_23 wt3_24 wt1_5 wt3_25) rfl rfl rfl ⟨rfl, by decide, by decide, by decide +kernel⟩ ⟨by decide, by decide⟩) (preV (q := ("MacroReckoner$Whole", TWh, 2)) hK hP hD hS hA XN_ok trivial [17, 18] rfl rfl 0 rfl rfl) rfl rfl hl.1 rfl (lv_room (Nat.le_of_ble_eq_true rfl)) dAr_remainder_4 ⟨Nat.zero_le _, Nat.zero_le _⟩) hP hD hS hA [17, 18] [0, 1, 2, 3, 4, 5, 6, 7, 8, 9, 10, 11, 12, 13, 14, 15, 16] rfl (fun v_ => wAr dA ar xR la ra sa qa (wVa dA xR wR crR tR ngR scR CR lnR (wWh dA wR gR FR uR (wWh dA la lg LF lu (wWh dA ra rg RF ru (wWh dA qa qg QF qu (wVa dA xx wx crx tx ngx scx Cx lnx (wWh dA wx gx Fx ux (wVa dA xy wy cry ty ngy scy Cy lny (wWh dA wy gy Fy uy [])))))))))) (fun _ => rfl) (fun _ => rfl) (fun _ => rfl) (fun _ => rfl) (fun r4 u_ H locs hq4 hP hD hS => ?_)
  have hP : va_P (dC, dI) vwCl (wAr dA ar xR la ra sa qa (wVa dA xR wR crR tR ngR scR CR lnR (wWh dA wR gR FR uR (wWh dA la lg LF lu (wWh dA ra rg RF ru (wWh dA qa qg QF qu (wVa dA xx wx crx tx ngx scx Cx lnx (wWh dA wx gx Fx ux (wVa dA xy wy cry ty ngy scy Cy lny (wWh dA wy gy Fy uy [])))))))))) H := hP
  have hD : va_D A (wAr dA ar xR la ra sa qa (wVa dA xR wR crR tR ngR scR CR lnR (wWh dA wR gR FR uR (wWh dA la lg LF lu (wWh dA ra rg RF ru (wWh dA qa qg QF qu (wVa dA xx wx crx tx ngx scx Cx lnx (wWh dA wx gx Fx ux (wVa dA xy wy cry ty ngy scy Cy lny (wWh dA wy gy Fy uy [])))))))))) := hD
  have hq4 : (r4 = 1 ∧ Ny = 0) ∨ (r4 = 0 ∧ Ny ≠ 0) := hq4
  refine iv_if_eq (tgt := 13) hx hb dAr_remainder_7 (by decide) ⟨by omega, by omega⟩ (fun hc7 => ?_) (fun hc7 => ?_)
  · refine lv_aload_n hx hb dAr_remainder_13 rfl (lv_at hl 1 rfl) ?_
    refine va_getN (D := (dC, dI)) (ci := 4) (v := .int (iI scx)) (C := "MacroReckoner$Value") (T := TVa) (N := 6) hx hb hts inVa hown hK hP 11 rfl rfl 3 (by decide) (va_Nw.use rfl (hX.1 ("MacroReckoner$Arithmetic", 56, "MacroReckoner$Value", "scale", "I", "MacroReckoner") (List.mem_of_getElem? (i := 16) rfl))) (fun _ h9 => h9) rfl dAr_remainder_14 ?_
    refine lv_iload_n hx hb dAr_remainder_17 rfl (lv_at hl 3 rfl) ?_
    refine lv_aload_n hx hb dAr_remainder_18 rfl (lv_at hl 2 rfl) ?_
    refine va_getN (D := (dC, dI)) (ci := 4) (v := .int (iI scy)) (C := "MacroReckoner$Value") (T := TVa) (N := 6) hx hb hts inVa hown hK hP 15 rfl rfl 3 (by decide) (va_Nw.use rfl (hX.1 ("MacroReckoner$Arithmetic", 56, "MacroReckoner$Value", "scale", "I", "MacroReckoner") (List.mem_of_getElem? (i := 16) rfl))) (fun _ h9 => h9) rfl dAr_remainder_19 ?_
    refine iv_iadd hx hb dAr_remainder_22 ?_
    refine iv_mmax hx hb (hml.trans hl.1.symm) hown (hts _ wt3_70) (hts _ wt2_178) (hts _ wt1_16) (hts _ wt2_179) (by decide) (Nat.le_of_ble_eq_true rfl) (Nat.zero_le _) (Nat.zero_le _) dAr_remainder_23 ⟨by omega, by omega⟩ ⟨by omega, by omega⟩ ?_
    refine lv_istore (lv' := [(4, .int (iI (max scx (ws + scy)))), (0, .ref ar), (1, .ref xx), (2, .ref xy), (3, .int (iI ws))]) hx hb dAr_remainder_26 hl (by decide) rfl (fun ls hl => ?_)
    refine lv_iload hx hb dAr_remainder_28 (lv_at hl 0 rfl) ?_
    refine lv_bipush (v := iI 40) hx hb dAr_remainder_30 (by decide) ?_
    refine iv_icmp_le (tgt := 38) hx hb dAr_remainder_32 (by decide) ⟨by omega, by omega⟩ ⟨by decide, by decide⟩ (fun hc32 => ?_) (fun hc32 => ?_)
    · refine lv_aload_n hx hb dAr_remainder_38 rfl (lv_at hl 1 rfl) ?_
      refine lv_aload_n hx hb dAr_remainder_39 rfl (lv_at hl 2 rfl) ?_
      refine lv_aload_n hx hb dAr_remainder_40 rfl (lv_at hl 3 rfl) ?_
      refine lv_iload_n hx hb dAr_remainder_41 rfl (lv_at hl 4 rfl) ?_
      refine cv_v (va_runV (C := "MacroReckoner$Arithmetic") (As := [.ref xx, .ref xy, .int (iI ws)]) (rest := []) ⟨hx, hb, hml, hown, hts⟩ (cAr_align l dC dI dA dS ar la ra sa qa xR lg LF lu rg RF ru xx wx crx tx ngx scx Cx lnx gx Fx ux Nx xy wy cry ty ngy scy Cy lny gy Fy uy Ny ws (by exact hVx0) (by exact hWx) (by exact hVy0) (by exact hWy) (by exact hws) H.size) (cwV 3 hts (gdV wt3_127 wt3_129 ws2_2 wt1_6 wt3_130) rfl rfl rfl ⟨rfl, by decide, by decide, by decide +kernel⟩ ⟨by decide, by decide⟩) (preV (q := ("MacroReckoner$Arithmetic", TAr, 5)) hK hP hD hS hA (XC_ok dS) hX [0, 5, 6, 7, 8, 11, 12, 13, 14, 15, 16, 17, 18] rfl rfl 0 rfl rfl) rfl rfl hl.1 rfl (lv_room (Nat.le_of_ble_eq_true rfl)) dAr_remainder_42 ⟨Nat.zero_le _, Nat.zero_le _⟩) hP hD hS hA [0, 5, 6, 7, 8, 11, 12, 13, 14, 15, 16, 17, 18] [1, 2, 3, 4, 9, 10] rfl (fun v_ => wAr dA ar xR la ra sa qa (wVa dA xR wR crR tR ngR scR CR lnR (wWh dA wR gR FR uR (wWh dA la lg v_.1 v_.2.1 (wWh dA ra rg v_.2.2.1 v_.2.2.2 (wWh dA qa qg QF qu (wVa dA xx wx crx tx ngx scx Cx lnx (wWh dA wx gx Fx ux (wVa dA xy wy cry ty ngy scy Cy lny (wWh dA wy gy Fy uy [])))))))))) (fun _ => rfl) (fun _ => rfl) (fun _ => rfl) (fun _ => rfl) (fun u_ H locs hq42 hP hD hS => ?_)
      obtain ⟨LA, lua, RA, rua⟩ := u_
      have hP : va_P (dC, dI) vwCl (wAr dA ar xR la ra sa qa (wVa dA xR wR crR tR ngR scR CR lnR (wWh dA wR gR FR uR (wWh dA la lg LA lua (wWh dA ra rg RA rua (wWh dA qa qg QF qu (wVa dA xx wx crx tx ngx scx Cx lnx (wWh dA wx gx Fx ux (wVa dA xy wy cry ty ngy scy Cy lny (wWh dA wy gy Fy uy [])))))))))) H := hP
      have hD : va_D A (wAr dA ar xR la ra sa qa (wVa dA xR wR crR tR ngR scR CR lnR (wWh dA wR gR FR uR (wWh dA la lg LA lua (wWh dA ra rg RA rua (wWh dA qa qg QF qu (wVa dA xx wx crx tx ngx scx Cx lnx (wWh dA wx gx Fx ux (wVa dA xy wy cry ty ngy scy Cy lny (wWh dA wy gy Fy uy [])))))))))) := hD
      have hq42 : WR LA lua (Nx * PW 10 (max (ws + scy - scx) 0)) ∧ WR RA rua (Ny * PW 10 (max (-(ws + scy - scx)) 0)) := hq42
      refine lv_aload_n hx hb dAr_remainder_45 rfl (lv_at hl 1 rfl) ?_
      refine va_get (D := (dC, dI)) (ci := 0) (v := .ref la) (C := "MacroReckoner$Arithmetic") (T := TAr) (N := 5) hx hb hts inAr hown hK hP 0 rfl rfl 1 (by decide) (hts _ wt1_143) (fun _ h9 => h9) rfl dAr_remainder_46 ?_
      refine lv_aload_n hx hb dAr_remainder_49 rfl (lv_at hl 1 rfl) ?_
      refine va_get (D := (dC, dI)) (ci := 0) (v := .ref ra) (C := "MacroReckoner$Arithmetic") (T := TAr) (N := 5) hx hb hts inAr hown hK hP 0 rfl rfl 2 (by decide) (hts _ wt1_144) (fun _ h9 => h9) rfl dAr_remainder_50 ?_
      refine lv_aload_n hx hb dAr_remainder_53 rfl (lv_at hl 1 rfl) ?_
      refine va_get (D := (dC, dI)) (ci := 0) (v := .ref qa) (C := "MacroReckoner$Arithmetic") (T := TAr) (N := 5) hx hb hts inAr hown hK hP 0 rfl rfl 4 (by decide) (hts _ wt1_146) (fun _ h9 => h9) rfl dAr_remainder_54 ?_
      refine cv_v (va_runV (C := "MacroReckoner$Whole") (As := [.ref ra, .ref qa]) (rest := []) ⟨hx, hb, hml, hown, hts⟩ (cWh_divideBy l dC dI dA dS la lg LA lua (Nx * PW 10 (max (ws + scy - scx) 0)) ra rg RA rua (Ny * PW 10 (max (-(ws + scy - scx)) 0)) qa qg QF qu (by exact hq42.1) (by exact hq42.2) (by exact Int.mul_pos (by omega) (PW_pos (by decide) _)) (by exact (w60 hNx0 hx4 (by omega) (by omega)).2.2.1) H.size) (cwV 2 hts (gdV wt3_131 wt3_132 wt3_133 wt1_5 wt3_134) rfl rfl rfl ⟨rfl, by decide, by decide, by decide +kernel⟩ ⟨by decide, by decide⟩) (preV (q := ("MacroReckoner$Whole", TWh, 2)) hK hP hD hS hA (XC_ok dS) hX [5, 6, 7, 8, 9, 10] rfl rfl 0 rfl rfl) rfl rfl hl.1 rfl (lv_room (Nat.le_of_ble_eq_true rfl)) dAr_remainder_57 ⟨Nat.zero_le _, Nat.zero_le _⟩) hP hD hS hA [5, 6, 7, 8, 9, 10] [0, 1, 2, 3, 4, 11, 12, 13, 14, 15, 16, 17, 18] rfl (fun v_ => wAr dA ar xR la ra sa qa (wVa dA xR wR crR tR ngR scR CR lnR (wWh dA wR gR FR uR (wWh dA la lg v_.1 v_.2.1 (wWh dA ra rg v_.2.2.1 v_.2.2.2.1 (wWh dA qa qg v_.2.2.2.2.1 v_.2.2.2.2.2 (wVa dA xx wx crx tx ngx scx Cx lnx (wWh dA wx gx Fx ux (wVa dA xy wy cry ty ngy scy Cy lny (wWh dA wy gy Fy uy [])))))))))) (fun _ => rfl) (fun _ => rfl) (fun _ => rfl) (fun _ => rfl) (fun u_ H locs hq57 hP hD hS => ?_)
      obtain ⟨LB, lub, RB, rub, QB, qub⟩ := u_
      have hP : va_P (dC, dI) vwCl (wAr dA ar xR la ra sa qa (wVa dA xR wR crR tR ngR scR CR lnR (wWh dA wR gR FR uR (wWh dA la lg LB lub (wWh dA ra rg RB rub (wWh dA qa qg QB qub (wVa dA xx wx crx tx ngx scx Cx lnx (wWh dA wx gx Fx ux (wVa dA xy wy cry ty ngy scy Cy lny (wWh dA wy gy Fy uy [])))))))))) H := hP
      have hD : va_D A (wAr dA ar xR la ra sa qa (wVa dA xR wR crR tR ngR scR CR lnR (wWh dA wR gR FR uR (wWh dA la lg LB lub (wWh dA ra rg RB rub (wWh dA qa qg QB qub (wVa dA xx wx crx tx ngx scx Cx lnx (wWh dA wx gx Fx ux (wVa dA xy wy cry ty ngy scy Cy lny (wWh dA wy gy Fy uy [])))))))))) := hD
      have hq57 : WR LB lub ((Nx * PW 10 (max (ws + scy - scx) 0)) % (Ny * PW 10 (max (-(ws + scy - scx)) 0))) ∧ WR RB rub (Ny * PW 10 (max (-(ws + scy - scx)) 0)) ∧ WR QB qub ((Nx * PW 10 (max (ws + scy - scx) 0)) / (Ny * PW 10 (max (-(ws + scy - scx)) 0))) := hq57
      refine lv_aload_n hx hb dAr_remainder_60 rfl (lv_at hl 1 rfl) ?_
      refine lv_aload_n hx hb dAr_remainder_61 rfl (lv_at hl 1 rfl) ?_
      refine va_get (D := (dC, dI)) (ci := 0) (v := .ref la) (C := "MacroReckoner$Arithmetic") (T := TAr) (N := 5) hx hb hts inAr hown hK hP 0 rfl rfl 1 (by decide) (hts _ wt1_143) (fun _ h9 => h9) rfl dAr_remainder_62 ?_
      refine lv_aload_n hx hb dAr_remainder_65 rfl (lv_at hl 2 rfl) ?_
      refine va_getN (D := (dC, dI)) (ci := 4) (v := .int (iI ngx)) (C := "MacroReckoner$Value") (T := TVa) (N := 6) hx hb hts inVa hown hK hP 11 rfl rfl 2 (by decide) (va_Nw.use rfl (hX.1 ("MacroReckoner$Arithmetic", 31, "MacroReckoner$Value", "negative", "Z", "MacroReckoner") (List.mem_of_getElem? (i := 13) rfl))) (fun _ h9 => h9) rfl dAr_remainder_66 ?_
      refine lv_iload hx hb dAr_remainder_69 (lv_at hl 0 rfl) ?_
      refine cv_i (va_runV (C := "MacroReckoner$Arithmetic") (As := [.ref la, .int (iI ngx), .int (iI (max scx (ws + scy)))]) (rest := []) ⟨hx, hb, hml, hown, hts⟩ (cAr_finish l dC dI dA dS ar la ra sa qa xR wR crR tR ngR scR CR lnR gR FR uR la lg LB lub (Nx * PW 10 (max (ws + scy - scx) 0) % (Ny * PW 10 (max (-(ws + scy - scx)) 0))) ngx (max scx (ws + scy)) (by exact hq57.1) (by exact hngx) H.size) (cwV 3 hts (gdV wt3_83 wt3_85 ws2_0 wt1_6 wt3_86) rfl rfl rfl ⟨rfl, by decide, by decide, by decide +kernel⟩ ⟨by decide, by decide⟩) (preV (q := ("MacroReckoner$Arithmetic", TAr, 5)) hK hP hD hS hA (XC_ok dS) hX [0, 1, 2, 3, 4, 5, 6] rfl rfl 0 rfl rfl) rfl rfl hl.1 rfl (lv_room (Nat.le_of_ble_eq_true rfl)) dAr_remainder_71 ⟨Nat.zero_le _, Nat.zero_le _⟩) hP hD hS hA [0, 1, 2, 3, 4, 5, 6] [7, 8, 9, 10, 11, 12, 13, 14, 15, 16, 17, 18] rfl (fun v_ => wAr dA ar xR la ra sa qa (wVa dA xR wR crR v_.1 v_.2.1 v_.2.2.1 CR v_.2.2.2.1 (wWh dA wR gR v_.2.2.2.2.1 v_.2.2.2.2.2 (wWh dA la lg LB lub (wWh dA ra rg RB rub (wWh dA qa qg QB qub (wVa dA xx wx crx tx ngx scx Cx lnx (wWh dA wx gx Fx ux (wVa dA xy wy cry ty ngy scy Cy lny (wWh dA wy gy Fy uy [])))))))))) (fun _ => rfl) (fun _ => rfl) (fun _ => rfl) (fun _ => rfl) (fun r71 u_ H locs hq71 hP hD hS => ?_)
      obtain ⟨t1_71, ng1_71, sc1_71, ln1_71, F1_71, u1_71⟩ := u_
      have hP : va_P (dC, dI) vwCl (wAr dA ar xR la ra sa qa (wVa dA xR wR crR t1_71 ng1_71 sc1_71 CR ln1_71 (wWh dA wR gR F1_71 u1_71 (wWh dA la lg LB lub (wWh dA ra rg RB rub (wWh dA qa qg QB qub (wVa dA xx wx crx tx ngx scx Cx lnx (wWh dA wx gx Fx ux (wVa dA xy wy cry ty ngy scy Cy lny (wWh dA wy gy Fy uy [])))))))))) H := hP
      have hD : va_D A (wAr dA ar xR la ra sa qa (wVa dA xR wR crR t1_71 ng1_71 sc1_71 CR ln1_71 (wWh dA wR gR F1_71 u1_71 (wWh dA la lg LB lub (wWh dA ra rg RB rub (wWh dA qa qg QB qub (wVa dA xx wx crx tx ngx scx Cx lnx (wWh dA wx gx Fx ux (wVa dA xy wy cry ty ngy scy Cy lny (wWh dA wy gy Fy uy [])))))))))) := hD
      have hq71 : RES r71 (sg ngx (Nx * PW 10 (max (ws + scy - scx) 0) % (Ny * PW 10 (max (-(ws + scy - scx)) 0)))) (max scx (ws + scy)) t1_71 ng1_71 sc1_71 ln1_71 F1_71 u1_71 := hq71
      exact rt_i hx hb hr hlocks hK hS dAr_remainder_74 (t1_71, ng1_71, sc1_71, ln1_71, F1_71, u1_71, LB, lub, RB, rub, QB, qub) hP hD (show (Ny = 0 ∧ r71 = -5) ∨ (Ny ≠ 0 ∧ 40 < max scx (ws + scy) ∧ r71 = -7) ∨ (Ny ≠ 0 ∧ max scx (ws + scy) ≤ 40 ∧ RES r71 (sg ngx (Nx * PW 10 (max (ws + scy - scx) 0) % (Ny * PW 10 (max (-(ws + scy - scx)) 0)))) (max scx (ws + scy)) t1_71 ng1_71 sc1_71 ln1_71 F1_71 u1_71) from by exact Or.inr (Or.inr ⟨by omega, by omega, hq71⟩))
    · refine lv_bipush (v := iI (-7)) hx hb dAr_remainder_35 (by decide) ?_
      exact rt_i hx hb hr hlocks hK hS dAr_remainder_37 (tR, ngR, scR, lnR, FR, uR, LF, lu, RF, ru, QF, qu) hP hD (show (Ny = 0 ∧ (-7) = -5) ∨ (Ny ≠ 0 ∧ 40 < max scx (ws + scy) ∧ (-7) = -7) ∨ (Ny ≠ 0 ∧ max scx (ws + scy) ≤ 40 ∧ RES (-7) (sg ngx (Nx * PW 10 (max (ws + scy - scx) 0) % (Ny * PW 10 (max (-(ws + scy - scx)) 0)))) (max scx (ws + scy)) tR ngR scR lnR FR uR) from by exact Or.inr (Or.inl ⟨by omega, by omega, rfl⟩))
  · refine lv_bipush (v := iI (-5)) hx hb dAr_remainder_10 (by decide) ?_
    exact rt_i hx hb hr hlocks hK hS dAr_remainder_12 (tR, ngR, scR, lnR, FR, uR, LF, lu, RF, ru, QF, qu) hP hD (show (Ny = 0 ∧ (-5) = -5) ∨ (Ny ≠ 0 ∧ 40 < max scx (ws + scy) ∧ (-5) = -7) ∨ (Ny ≠ 0 ∧ max scx (ws + scy) ≤ 40 ∧ RES (-5) (sg ngx (Nx * PW 10 (max (ws + scy - scx) 0) % (Ny * PW 10 (max (-(ws + scy - scx)) 0)))) (max scx (ws + scy)) tR ngR scR lnR FR uR) from by exact Or.inl (by omega))

theorem dAr_raise_0 : decode prog_2_method_11_code 0 = .ok (.aload_n 0, 1) := by decide +kernel
theorem dAr_raise_1 : decode prog_2_method_11_code 1 = .ok (.getfield 12, 3) := by decide +kernel
theorem dAr_raise_4 : decode prog_2_method_11_code 4 = .ok (.iconst 1, 1) := by decide +kernel
theorem dAr_raise_5 : decode prog_2_method_11_code 5 = .ok (.invokevirtual 111, 3) := by decide +kernel
theorem dAr_raise_8 : decode prog_2_method_11_code 8 = .ok (.iconst 0, 1) := by decide +kernel
theorem dAr_raise_9 : decode prog_2_method_11_code 9 = .ok (.istore_n 3, 1) := by decide +kernel
theorem dAr_raise_10 : decode prog_2_method_11_code 10 = .ok (.iload_n 3, 1) := by decide +kernel
theorem dAr_raise_11 : decode prog_2_method_11_code 11 = .ok (.iload_n 2, 1) := by decide +kernel
theorem dAr_raise_12 : decode prog_2_method_11_code 12 = .ok (.if_icmp .ge 45, 3) := by decide +kernel
theorem dAr_raise_15 : decode prog_2_method_11_code 15 = .ok (.aload_n 0, 1) := by decide +kernel
theorem dAr_raise_16 : decode prog_2_method_11_code 16 = .ok (.getfield 12, 3) := by decide +kernel
theorem dAr_raise_19 : decode prog_2_method_11_code 19 = .ok (.invokevirtual 91, 3) := by decide +kernel
theorem dAr_raise_22 : decode prog_2_method_11_code 22 = .ok (.sipush 200, 3) := by decide +kernel
theorem dAr_raise_25 : decode prog_2_method_11_code 25 = .ok (.if_icmp .gt 32, 3) := by decide +kernel
theorem dAr_raise_28 : decode prog_2_method_11_code 28 = .ok (.aload_n 0, 1) := by decide +kernel
theorem dAr_raise_29 : decode prog_2_method_11_code 29 = .ok (.getfield 18, 3) := by decide +kernel
theorem dAr_raise_32 : decode prog_2_method_11_code 32 = .ok (.aload_n 0, 1) := by decide +kernel
theorem dAr_raise_33 : decode prog_2_method_11_code 33 = .ok (.getfield 12, 3) := by decide +kernel
theorem dAr_raise_36 : decode prog_2_method_11_code 36 = .ok (.aload_n 1, 1) := by decide +kernel
theorem dAr_raise_37 : decode prog_2_method_11_code 37 = .ok (.invokevirtual 72, 3) := by decide +kernel
theorem dAr_raise_40 : decode prog_2_method_11_code 40 = .ok (.aload_n 0, 1) := by decide +kernel
theorem dAr_raise_41 : decode prog_2_method_11_code 41 = .ok (.getfield 12, 3) := by decide +kernel
theorem dAr_raise_44 : decode prog_2_method_11_code 44 = .ok (.aload_n 0, 1) := by decide +kernel
theorem dAr_raise_45 : decode prog_2_method_11_code 45 = .ok (.getfield 18, 3) := by decide +kernel
theorem dAr_raise_48 : decode prog_2_method_11_code 48 = .ok (.invokevirtual 105, 3) := by decide +kernel
theorem dAr_raise_51 : decode prog_2_method_11_code 51 = .ok (.iinc 3 1, 3) := by decide +kernel
theorem dAr_raise_54 : decode prog_2_method_11_code 54 = .ok (.goto (-44), 3) := by decide +kernel
theorem dAr_raise_57 : decode prog_2_method_11_code 57 = .ok (.aload_n 0, 1) := by decide +kernel
theorem dAr_raise_58 : decode prog_2_method_11_code 58 = .ok (.getfield 12, 3) := by decide +kernel
theorem dAr_raise_61 : decode prog_2_method_11_code 61 = .ok (.invokevirtual 91, 3) := by decide +kernel
theorem dAr_raise_64 : decode prog_2_method_11_code 64 = .ok (.sipush 200, 3) := by decide +kernel
theorem dAr_raise_67 : decode prog_2_method_11_code 67 = .ok (.if_icmp .gt 7, 3) := by decide +kernel
theorem dAr_raise_70 : decode prog_2_method_11_code 70 = .ok (.iconst 1, 1) := by decide +kernel
theorem dAr_raise_71 : decode prog_2_method_11_code 71 = .ok (.goto 4, 3) := by decide +kernel
theorem dAr_raise_74 : decode prog_2_method_11_code 74 = .ok (.iconst 0, 1) := by decide +kernel
theorem dAr_raise_75 : decode prog_2_method_11_code 75 = .ok (.ireturn, 1) := by decide +kernel
abbrev qAr_raise (dC : Nat → ClassId) (dI : Nat → Nat → Nat) (dA : Nat → ClassId) (dS : Nat → Nat) (ar : Nat) (la : Nat) (ra : Nat) (sa : Nat) (qa : Nat) (xR : Nat) (lg : Nat) (LF : Int → Int) (lu : Int) (rg : Nat) (RF : Int → Int) (ru : Int) (a : Nat) (ga : Nat) (Fa : Int → Int) (ua : Int) (M : Int) (tm : Int) (A : Nat → Prop) : Array Value → State → Outcome → State → Prop := QI (dC, dI) vwCl (tyA dA) (fun (r : Int) (v_ : (Int → Int) × Int × (Int → Int) × Int) => WR v_.1 v_.2.1 (PW M tm) ∧ r = 1 ∧ PW M tm < PW 10 200 ∨ r = 0 ∧ PW 10 200 ≤ PW M tm) (fun (v_ : (Int → Int) × Int × (Int → Int) × Int) => wAr dA ar xR la ra sa qa (wWh dA la lg v_.1 v_.2.1 (wWh dA ra rg v_.2.2.1 v_.2.2.2 (wWh dA a ga Fa ua [])))) A
abbrev rmAr_raise : Room := { frames := 2, cells := 0, slots := 0, locals := 81 }
set_option maxRecDepth 100000 in
set_option maxHeartbeats 1000000 in
theorem cAr_raise (l : Launch) (dC : Nat → ClassId) (dI : Nat → Nat → Nat) (dA : Nat → ClassId) (dS : Nat → Nat) (ar : Nat) (la : Nat) (ra : Nat) (sa : Nat) (qa : Nat) (xR : Nat) (lg : Nat) (LF : Int → Int) (lu : Int) (rg : Nat) (RF : Int → Int) (ru : Int) (a : Nat) (ga : Nat) (Fa : Int → Int) (ua : Int) (M : Int) (tm : Int) (hW : WR Fa ua M) (hM6 : M < PW 10 60) (htm : 0 ≤ tm ∧ tm ≤ 99) (sz : Nat) : Met l yAr_raise wsAr_raise rmAr_raise (PC (dC, dI) vwCl (tyA dA) (XC dS) [.ref ar, .ref a, .int (iI tm)] (wAr dA ar xR la ra sa qa (wWh dA la lg LF lu (wWh dA ra rg RF ru (wWh dA a ga Fa ua [])))) sz) (qAr_raise dC dI dA dS ar la ra sa qa xR lg LF lu rg RF ru a ga Fa ua M tm (va_A (wAr dA ar xR la ra sa qa (wWh dA la lg LF lu (wWh dA ra rg RF ru (wWh dA a ga Fa ua [])))) sz)) 0 0 (va_A (wAr dA ar xR la ra sa qa (wWh dA la lg LF lu (wWh dA ra rg RF ru (wWh dA a ga Fa ua [])))) sz) := by
  refine met_of (cc := prog_2_method_11_code) (maxL := 4) (ret := (some .boolean)) (Qc := qAr_raise dC dI dA dS ar la ra sa qa xR lg LF lu rg RF ru a ga Fa ua M tm) (XC_ok dS) (by decide) rfl (Nat.le_of_ble_eq_true rfl) ?_
  intro p e s m below meth c ls A hx hb hr hml hown hts hlocks hnm hK hP hD hA hX hS hl
  have hl : lv_has ls 4 [(0, .ref ar), (1, .ref a), (2, .int (iI tm))] := hl
  have hown : s.vm.findClass "MacroReckoner$Arithmetic" = some m.cls := hown
  obtain ⟨H, hH⟩ : ∃ H : Heap, H = s.heap := ⟨_, rfl⟩
  obtain ⟨locs, hlo⟩ : ∃ L : List Loc, L = [] := ⟨_, rfl⟩
  have hP : va_P (dC, dI) vwCl (wAr dA ar xR la ra sa qa (wWh dA la lg LF lu (wWh dA ra rg RF ru (wWh dA a ga Fa ua [])))) H := hH ▸ hP
  have hS : va_S A s.heap H locs := by rw [hH, hlo]; exact hS
  suffices hgo : W p l e rmAr_raise s m [.ref ar, .ref a, .int (iI tm)].toArray below meth c H locs 0 0 (MQ below (qAr_raise dC dI dA dS ar la ra sa qa xR lg LF lu rg RF ru a ga Fa ua M tm A) [.ref ar, .ref a, .int (iI tm)].toArray s 0 0 A) (F0 m 0 ls []) by rw [hH, hlo] at hgo; exact hgo
  clear hH hlo
  have hM0 := (WR_bd hW).1
  have hu7 := u60 hW hM6
  refine lv_aload_n hx hb dAr_raise_0 rfl (lv_at hl 0 rfl) ?_
  refine va_get (D := (dC, dI)) (ci := 0) (v := .ref la) (C := "MacroReckoner$Arithmetic") (T := TAr) (N := 5) hx hb hts inAr hown hK hP 0 rfl rfl 1 (by decide) (hts _ wt1_143) (fun _ h9 => h9) rfl dAr_raise_1 ?_
  refine lv_iconst (v := iI 1) hx hb dAr_raise_4 rfl ?_
  refine cv_v (va_runV (C := "MacroReckoner$Whole") (As := [.int (iI 1)]) (rest := []) ⟨hx, hb, hml, hown, hts⟩ (cWh_becomeSmall l dC dI dA la lg LF lu 1 (by omega) H.size) (cwV 1 hts (gdV wt3_170 wt3_14 wt3_15 wt1_5 wt3_16) rfl rfl rfl ⟨rfl, by decide, by decide, by decide +kernel⟩ ⟨by decide, by decide⟩) (preV (q := ("MacroReckoner$Whole", TWh, 2)) hK hP hD hS hA XN_ok trivial [1, 2] rfl rfl 0 rfl rfl) rfl rfl hl.1 rfl (lv_room (Nat.le_of_ble_eq_true rfl)) dAr_raise_5 ⟨Nat.zero_le _, Nat.zero_le _⟩) hP hD hS hA [1, 2] [0, 3, 4, 5, 6] rfl (fun v_ => wAr dA ar xR la ra sa qa (wWh dA la lg v_.1 v_.2 (wWh dA ra rg RF ru (wWh dA a ga Fa ua [])))) (fun _ => rfl) (fun _ => rfl) (fun _ => rfl) (fun _ => rfl) (fun u_ H locs hq5 hP hD hS => ?_)
  obtain ⟨LA, lua⟩ := u_
  have hP : va_P (dC, dI) vwCl (wAr dA ar xR la ra sa qa (wWh dA la lg LA lua (wWh dA ra rg RF ru (wWh dA a ga Fa ua [])))) H := hP
  have hD : va_D A (wAr dA ar xR la ra sa qa (wWh dA la lg LA lua (wWh dA ra rg RF ru (wWh dA a ga Fa ua [])))) := hD
  have hq5 : WR LA lua 1 := hq5
  refine lv_iconst (v := iI 0) hx hb dAr_raise_8 rfl ?_
  refine lv_istore_n (lv' := [(3, .int (iI 0)), (0, .ref ar), (1, .ref a), (2, .int (iI tm))]) hx hb dAr_raise_9 rfl hl (by decide) rfl (fun ls hl => ?_)
  have L10 : ∀ (n : Nat) (L9 : Int → Int) (l9 : Int) (R9 : Int → Int) (r9 : Int) (i : Int) (H : Heap) (locs : List Loc) (ls : Array Slot), (0 ≤ i ∧ i ≤ tm) → (WR L9 l9 (PW M i)) → (tm - i).toNat < n → va_P (dC, dI) vwCl (wAr dA ar xR la ra sa qa (wWh dA la lg L9 l9 (wWh dA ra rg R9 r9 (wWh dA a ga Fa ua [])))) H → va_D A (wAr dA ar xR la ra sa qa (wWh dA la lg L9 l9 (wWh dA ra rg R9 r9 (wWh dA a ga Fa ua [])))) → va_S A s.heap H locs → lv_has ls 4 [(3, .int (iI i)), (0, .ref ar), (1, .ref a), (2, .int (iI tm))] → W p l e rmAr_raise s m [.ref ar, .ref a, .int (iI tm)].toArray below meth c H locs 0 0 (MQ below (qAr_raise dC dI dA dS ar la ra sa qa xR lg LF lu rg RF ru a ga Fa ua M tm A) [.ref ar, .ref a, .int (iI tm)].toArray s 0 0 A) (F0 m 10 ls []) := by
    intro n
    induction n with
    | zero => intro L9 l9 R9 r9 i H locs ls hi hJ hn; omega
    | succ n ih =>
      intro L9 l9 R9 r9 i H locs ls hi hJ hn hP hD hS hl
      have ih10 := ih
      refine lv_iload_n hx hb dAr_raise_10 rfl (lv_at hl 0 rfl) ?_
      refine lv_iload_n hx hb dAr_raise_11 rfl (lv_at hl 3 rfl) ?_
      refine iv_icmp_ge (tgt := 57) hx hb dAr_raise_12 (by decide) ⟨by omega, by omega⟩ ⟨by omega, by omega⟩ (fun hc12 => ?_) (fun hc12 => ?_)
      · refine lv_aload_n hx hb dAr_raise_57 rfl (lv_at hl 1 rfl) ?_
        refine va_get (D := (dC, dI)) (ci := 0) (v := .ref la) (C := "MacroReckoner$Arithmetic") (T := TAr) (N := 5) hx hb hts inAr hown hK hP 0 rfl rfl 1 (by decide) (hts _ wt1_143) (fun _ h9 => h9) rfl dAr_raise_58 ?_
        refine cv_i (va_runV (C := "MacroReckoner$Whole") (As := []) (rest := []) ⟨hx, hb, hml, hown, hts⟩ (cWh_size l dC dI dA dS la lg L9 l9 (PW M i) (by exact hJ) H.size) (cwV 0 hts (gdV wt3_87 wt3_31 wt3_32 wt1_5 wt3_33) rfl rfl rfl ⟨rfl, by decide, by decide, by decide +kernel⟩ ⟨by decide, by decide⟩) (preV (q := ("MacroReckoner$Whole", TWh, 2)) hK hP hD hS hA (XC_ok dS) hX [1, 2] rfl rfl 0 rfl rfl) rfl rfl hl.1 rfl (lv_room (Nat.le_of_ble_eq_true rfl)) dAr_raise_61 ⟨Nat.zero_le _, Nat.zero_le _⟩) hP hD hS hA [1, 2] [0, 3, 4, 5, 6] rfl (fun v_ => wAr dA ar xR la ra sa qa (wWh dA la lg L9 l9 (wWh dA ra rg R9 r9 (wWh dA a ga Fa ua [])))) (fun _ => rfl) (fun _ => rfl) (fun _ => rfl) (fun _ => rfl) (fun r61 u_ H locs hq61 hP hD hS => ?_)
        have hP : va_P (dC, dI) vwCl (wAr dA ar xR la ra sa qa (wWh dA la lg L9 l9 (wWh dA ra rg R9 r9 (wWh dA a ga Fa ua [])))) H := hP
        have hD : va_D A (wAr dA ar xR la ra sa qa (wWh dA la lg L9 l9 (wWh dA ra rg R9 r9 (wWh dA a ga Fa ua [])))) := hD
        have hq61 : DL (PW M i) r61 := hq61
        have hdl := WR_dl hJ hq61
        refine lv_sipush (v := iI 200) hx hb dAr_raise_64 (by decide) ?_
        refine iv_icmp_gt (tgt := 74) hx hb dAr_raise_67 (by decide) ⟨by omega, by omega⟩ ⟨by decide, by decide⟩ (fun hc67 => ?_) (fun hc67 => ?_)
        · refine lv_iconst (v := iI 0) hx hb dAr_raise_74 rfl ?_
          exact rt_z hx hb hr hlocks hK hS dAr_raise_75 (nrw_bool (by omega)) (L9, l9, R9, r9) hP hD (show WR L9 l9 (PW M tm) ∧ 0 = 1 ∧ PW M tm < PW 10 200 ∨ 0 = 0 ∧ PW 10 200 ≤ PW M tm from by first | (have e : i = tm := (by omega); rw [e] at hJ hq61; first | exact Or.inl ⟨hJ, rfl, DL_lt hq61 (by omega)⟩ | exact Or.inr ⟨rfl, DL_ge hq61 (by decide) (by omega)⟩) | exact Or.inr ⟨rfl, pow_mono hM0 hi.1 hi.2 (DL_ge hq61 (by decide) (by omega))⟩ | exact absurd (DL_u hq19 hq61) (by omega))
        · refine lv_iconst (v := iI 1) hx hb dAr_raise_70 rfl ?_
          refine lv_goto (tgt := 75) hx hb dAr_raise_71 (by decide) ?_
          exact rt_z hx hb hr hlocks hK hS dAr_raise_75 (nrw_bool (by omega)) (L9, l9, R9, r9) hP hD (show WR L9 l9 (PW M tm) ∧ 1 = 1 ∧ PW M tm < PW 10 200 ∨ 1 = 0 ∧ PW 10 200 ≤ PW M tm from by first | (have e : i = tm := (by omega); rw [e] at hJ hq61; first | exact Or.inl ⟨hJ, rfl, DL_lt hq61 (by omega)⟩ | exact Or.inr ⟨rfl, DL_ge hq61 (by decide) (by omega)⟩) | exact Or.inr ⟨rfl, pow_mono hM0 hi.1 hi.2 (DL_ge hq61 (by decide) (by omega))⟩ | exact absurd (DL_u hq19 hq61) (by omega))
      · refine lv_aload_n hx hb dAr_raise_15 rfl (lv_at hl 1 rfl) ?_
        refine va_get (D := (dC, dI)) (ci := 0) (v := .ref la) (C := "MacroReckoner$Arithmetic") (T := TAr) (N := 5) hx hb hts inAr hown hK hP 0 rfl rfl 1 (by decide) (hts _ wt1_143) (fun _ h9 => h9) rfl dAr_raise_16 ?_
        refine cv_i (va_runV (C := "MacroReckoner$Whole") (As := []) (rest := []) ⟨hx, hb, hml, hown, hts⟩ (cWh_size l dC dI dA dS la lg L9 l9 (PW M i) (by exact hJ) H.size) (cwV 0 hts (gdV wt3_87 wt3_31 wt3_32 wt1_5 wt3_33) rfl rfl rfl ⟨rfl, by decide, by decide, by decide +kernel⟩ ⟨by decide, by decide⟩) (preV (q := ("MacroReckoner$Whole", TWh, 2)) hK hP hD hS hA (XC_ok dS) hX [1, 2] rfl rfl 0 rfl rfl) rfl rfl hl.1 rfl (lv_room (Nat.le_of_ble_eq_true rfl)) dAr_raise_19 ⟨Nat.zero_le _, Nat.zero_le _⟩) hP hD hS hA [1, 2] [0, 3, 4, 5, 6] rfl (fun v_ => wAr dA ar xR la ra sa qa (wWh dA la lg L9 l9 (wWh dA ra rg R9 r9 (wWh dA a ga Fa ua [])))) (fun _ => rfl) (fun _ => rfl) (fun _ => rfl) (fun _ => rfl) (fun r19 u_ H locs hq19 hP hD hS => ?_)
        have hP : va_P (dC, dI) vwCl (wAr dA ar xR la ra sa qa (wWh dA la lg L9 l9 (wWh dA ra rg R9 r9 (wWh dA a ga Fa ua [])))) H := hP
        have hD : va_D A (wAr dA ar xR la ra sa qa (wWh dA la lg L9 l9 (wWh dA ra rg R9 r9 (wWh dA a ga Fa ua [])))) := hD
        have hq19 : DL (PW M i) r19 := hq19
        have hdl := WR_dl hJ hq19
        refine lv_sipush (v := iI 200) hx hb dAr_raise_22 (by decide) ?_
        refine iv_icmp_gt (tgt := 57) hx hb dAr_raise_25 (by decide) ⟨by omega, by omega⟩ ⟨by decide, by decide⟩ (fun hc25 => ?_) (fun hc25 => ?_)
        · refine lv_aload_n hx hb dAr_raise_57 rfl (lv_at hl 1 rfl) ?_
          refine va_get (D := (dC, dI)) (ci := 0) (v := .ref la) (C := "MacroReckoner$Arithmetic") (T := TAr) (N := 5) hx hb hts inAr hown hK hP 0 rfl rfl 1 (by decide) (hts _ wt1_143) (fun _ h9 => h9) rfl dAr_raise_58 ?_
          refine cv_i (va_runV (C := "MacroReckoner$Whole") (As := []) (rest := []) ⟨hx, hb, hml, hown, hts⟩ (cWh_size l dC dI dA dS la lg L9 l9 (PW M i) (by exact hJ) H.size) (cwV 0 hts (gdV wt3_87 wt3_31 wt3_32 wt1_5 wt3_33) rfl rfl rfl ⟨rfl, by decide, by decide, by decide +kernel⟩ ⟨by decide, by decide⟩) (preV (q := ("MacroReckoner$Whole", TWh, 2)) hK hP hD hS hA (XC_ok dS) hX [1, 2] rfl rfl 0 rfl rfl) rfl rfl hl.1 rfl (lv_room (Nat.le_of_ble_eq_true rfl)) dAr_raise_61 ⟨Nat.zero_le _, Nat.zero_le _⟩) hP hD hS hA [1, 2] [0, 3, 4, 5, 6] rfl (fun v_ => wAr dA ar xR la ra sa qa (wWh dA la lg L9 l9 (wWh dA ra rg R9 r9 (wWh dA a ga Fa ua [])))) (fun _ => rfl) (fun _ => rfl) (fun _ => rfl) (fun _ => rfl) (fun r61 u_ H locs hq61 hP hD hS => ?_)
          have hP : va_P (dC, dI) vwCl (wAr dA ar xR la ra sa qa (wWh dA la lg L9 l9 (wWh dA ra rg R9 r9 (wWh dA a ga Fa ua [])))) H := hP
          have hD : va_D A (wAr dA ar xR la ra sa qa (wWh dA la lg L9 l9 (wWh dA ra rg R9 r9 (wWh dA a ga Fa ua [])))) := hD
          have hq61 : DL (PW M i) r61 := hq61
          have hdl := WR_dl hJ hq61
          refine lv_sipush (v := iI 200) hx hb dAr_raise_64 (by decide) ?_
          refine iv_icmp_gt (tgt := 74) hx hb dAr_raise_67 (by decide) ⟨by omega, by omega⟩ ⟨by decide, by decide⟩ (fun hc67 => ?_) (fun hc67 => ?_)
          · refine lv_iconst (v := iI 0) hx hb dAr_raise_74 rfl ?_
            exact rt_z hx hb hr hlocks hK hS dAr_raise_75 (nrw_bool (by omega)) (L9, l9, R9, r9) hP hD (show WR L9 l9 (PW M tm) ∧ 0 = 1 ∧ PW M tm < PW 10 200 ∨ 0 = 0 ∧ PW 10 200 ≤ PW M tm from by first | (have e : i = tm := (by omega); rw [e] at hJ hq61; first | exact Or.inl ⟨hJ, rfl, DL_lt hq61 (by omega)⟩ | exact Or.inr ⟨rfl, DL_ge hq61 (by decide) (by omega)⟩) | exact Or.inr ⟨rfl, pow_mono hM0 hi.1 hi.2 (DL_ge hq61 (by decide) (by omega))⟩ | exact absurd (DL_u hq19 hq61) (by omega))
          · refine lv_iconst (v := iI 1) hx hb dAr_raise_70 rfl ?_
            refine lv_goto (tgt := 75) hx hb dAr_raise_71 (by decide) ?_
            exact rt_z hx hb hr hlocks hK hS dAr_raise_75 (nrw_bool (by omega)) (L9, l9, R9, r9) hP hD (show WR L9 l9 (PW M tm) ∧ 1 = 1 ∧ PW M tm < PW 10 200 ∨ 1 = 0 ∧ PW 10 200 ≤ PW M tm from by first | (have e : i = tm := (by omega); rw [e] at hJ hq61; first | exact Or.inl ⟨hJ, rfl, DL_lt hq61 (by omega)⟩ | exact Or.inr ⟨rfl, DL_ge hq61 (by decide) (by omega)⟩) | exact Or.inr ⟨rfl, pow_mono hM0 hi.1 hi.2 (DL_ge hq61 (by decide) (by omega))⟩ | exact absurd (DL_u hq19 hq61) (by omega))
        · refine lv_aload_n hx hb dAr_raise_28 rfl (lv_at hl 1 rfl) ?_
          refine va_get (D := (dC, dI)) (ci := 0) (v := .ref ra) (C := "MacroReckoner$Arithmetic") (T := TAr) (N := 5) hx hb hts inAr hown hK hP 0 rfl rfl 2 (by decide) (hts _ wt1_144) (fun _ h9 => h9) rfl dAr_raise_29 ?_
          refine lv_aload_n hx hb dAr_raise_32 rfl (lv_at hl 1 rfl) ?_
          refine va_get (D := (dC, dI)) (ci := 0) (v := .ref la) (C := "MacroReckoner$Arithmetic") (T := TAr) (N := 5) hx hb hts inAr hown hK hP 0 rfl rfl 1 (by decide) (hts _ wt1_143) (fun _ h9 => h9) rfl dAr_raise_33 ?_
          refine lv_aload_n hx hb dAr_raise_36 rfl (lv_at hl 2 rfl) ?_
          refine cv_v (va_runV (C := "MacroReckoner$Whole") (As := [.ref la, .ref a]) (rest := []) ⟨hx, hb, hml, hown, hts⟩ (cWh_becomeProduct l dC dI dA ra rg R9 r9 la lg L9 l9 (PW M i) a ga Fa ua M (by exact hJ) (by exact hW) (by have := u200 hJ (DL_lt hq19 (by omega)); omega) H.size) (cwV 2 hts (gdV wt3_109 wt3_110 wt3_111 wt1_5 wt3_112) rfl rfl rfl ⟨rfl, by decide, by decide, by decide +kernel⟩ ⟨by decide, by decide⟩) (preV (q := ("MacroReckoner$Whole", TWh, 2)) hK hP hD hS hA XN_ok trivial [3, 4, 1, 2, 5, 6] rfl rfl 0 rfl rfl) rfl rfl hl.1 rfl (lv_room (Nat.le_of_ble_eq_true rfl)) dAr_raise_37 ⟨Nat.zero_le _, Nat.zero_le _⟩) hP hD hS hA [3, 4, 1, 2, 5, 6] [0] rfl (fun v_ => wAr dA ar xR la ra sa qa (wWh dA la lg L9 l9 (wWh dA ra rg v_.1 v_.2 (wWh dA a ga Fa ua [])))) (fun _ => rfl) (fun _ => rfl) (fun _ => rfl) (fun _ => rfl) (fun u_ H locs hq37 hP hD hS => ?_)
          obtain ⟨RB, rub⟩ := u_
          have hP : va_P (dC, dI) vwCl (wAr dA ar xR la ra sa qa (wWh dA la lg L9 l9 (wWh dA ra rg RB rub (wWh dA a ga Fa ua [])))) H := hP
          have hD : va_D A (wAr dA ar xR la ra sa qa (wWh dA la lg L9 l9 (wWh dA ra rg RB rub (wWh dA a ga Fa ua [])))) := hD
          have hq37 : WR RB rub ((PW M i) * M) := hq37
          refine lv_aload_n hx hb dAr_raise_40 rfl (lv_at hl 1 rfl) ?_
          refine va_get (D := (dC, dI)) (ci := 0) (v := .ref la) (C := "MacroReckoner$Arithmetic") (T := TAr) (N := 5) hx hb hts inAr hown hK hP 0 rfl rfl 1 (by decide) (hts _ wt1_143) (fun _ h9 => h9) rfl dAr_raise_41 ?_
          refine lv_aload_n hx hb dAr_raise_44 rfl (lv_at hl 1 rfl) ?_
          refine va_get (D := (dC, dI)) (ci := 0) (v := .ref ra) (C := "MacroReckoner$Arithmetic") (T := TAr) (N := 5) hx hb hts inAr hown hK hP 0 rfl rfl 2 (by decide) (hts _ wt1_144) (fun _ h9 => h9) rfl dAr_raise_45 ?_
          refine cv_v (va_runV (C := "MacroReckoner$Whole") (As := [.ref ra]) (rest := []) ⟨hx, hb, hml, hown, hts⟩ (cWh_become l dC dI dA la lg L9 l9 ra rg RB rub (PW M i * M) (by exact hq37) H.size) (cwV 1 hts (gdV wt3_71 wt3_45 wt3_46 wt1_5 wt3_47) rfl rfl rfl ⟨rfl, by decide, by decide, by decide +kernel⟩ ⟨by decide, by decide⟩) (preV (q := ("MacroReckoner$Whole", TWh, 2)) hK hP hD hS hA XN_ok trivial [1, 2, 3, 4] rfl rfl 0 rfl rfl) rfl rfl hl.1 rfl (lv_room (Nat.le_of_ble_eq_true rfl)) dAr_raise_48 ⟨Nat.zero_le _, Nat.zero_le _⟩) hP hD hS hA [1, 2, 3, 4] [0, 5, 6] rfl (fun v_ => wAr dA ar xR la ra sa qa (wWh dA la lg v_ rub (wWh dA ra rg RB rub (wWh dA a ga Fa ua [])))) (fun _ => rfl) (fun _ => rfl) (fun _ => rfl) (fun _ => rfl) (fun u_ H locs hq48 hP hD hS => ?_)
          obtain ⟨LB, rfl⟩ : ∃ z, z = u_ := ⟨_, rfl⟩
          have hP : va_P (dC, dI) vwCl (wAr dA ar xR la ra sa qa (wWh dA la lg LB rub (wWh dA ra rg RB rub (wWh dA a ga Fa ua [])))) H := hP
          have hD : va_D A (wAr dA ar xR la ra sa qa (wWh dA la lg LB rub (wWh dA ra rg RB rub (wWh dA a ga Fa ua [])))) := hD
          have hq48 : WR LB rub (PW M i * M) := hq48
          refine lv_iinc (k := 0) (lv' := [(3, .int (iI (i + 1))), (0, .ref ar), (1, .ref a), (2, .int (iI tm))]) (v := iI (i + 1)) hx hb dAr_raise_51 hl rfl (iI_add _ _).symm (by decide) rfl (fun ls hl => ?_)
          refine lv_goto (tgt := 10) hx hb dAr_raise_54 (by decide) ?_
          exact ih10 LB rub RB rub (i + 1) H locs ls (by omega) (by rw [PW_s hi.1]; exact hq48) (by omega) hP hD hS (lv_sub hl [0, 1, 2, 3] rfl)
  exact L10 _ LA lua RF ru 0 H locs ls (by omega) (by rw [PW_0]; exact hq5) (Nat.lt_succ_self _) hP hD hS (lv_sub hl [0, 1, 2, 3] rfl)
