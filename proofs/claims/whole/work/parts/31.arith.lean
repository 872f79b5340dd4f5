theorem dAr_finish_0 : decode prog_2_method_12_code 0 = .ok (.aload_n 1, 1) := by decide +kernel
theorem dAr_finish_1 : decode prog_2_method_12_code 1 = .ok (.invokevirtual 91, 3) := by decide +kernel
theorem dAr_finish_4 : decode prog_2_method_12_code 4 = .ok (.bipush 60, 2) := by decide +kernel
theorem dAr_finish_6 : decode prog_2_method_12_code 6 = .ok (.if_icmp .le 6, 3) := by decide +kernel
theorem dAr_finish_9 : decode prog_2_method_12_code 9 = .ok (.bipush (-7), 2) := by decide +kernel
theorem dAr_finish_11 : decode prog_2_method_12_code 11 = .ok (.ireturn, 1) := by decide +kernel
theorem dAr_finish_12 : decode prog_2_method_12_code 12 = .ok (.aload_n 0, 1) := by decide +kernel
theorem dAr_finish_13 : decode prog_2_method_12_code 13 = .ok (.getfield 27, 3) := by decide +kernel
theorem dAr_finish_16 : decode prog_2_method_12_code 16 = .ok (.aload_n 1, 1) := by decide +kernel
theorem dAr_finish_17 : decode prog_2_method_12_code 17 = .ok (.iload_n 2, 1) := by decide +kernel
theorem dAr_finish_18 : decode prog_2_method_12_code 18 = .ok (.iload_n 3, 1) := by decide +kernel
theorem dAr_finish_19 : decode prog_2_method_12_code 19 = .ok (.invokevirtual 117, 3) := by decide +kernel
theorem dAr_finish_22 : decode prog_2_method_12_code 22 = .ok (.iconst 0, 1) := by decide +kernel
theorem dAr_finish_23 : decode prog_2_method_12_code 23 = .ok (.ireturn, 1) := by decide +kernel
abbrev qAr_finish (dC : Nat → ClassId) (dI : Nat → Nat → Nat) (dA : Nat → ClassId) (dS : Nat → Nat) (ar : Nat) (la : Nat) (ra : Nat) (sa : Nat) (qa : Nat) (xR : Nat) (wR : Nat) (crR : Nat) (tR : Int) (ngR : Int) (scR : Int) (CR : Int → Int) (lnR : Int) (gR : Nat) (FR : Int → Int) (uR : Int) (a : Nat) (ga : Nat) (Fa : Int → Int) (ua : Int) (M : Int) (bz : Int) (isc : Int) (A : Nat → Prop) : Array Value → State → Outcome → State → Prop := QI (dC, dI) vwCl (tyA dA) (fun (r : Int) (v_ : Int × Int × Int × Int × (Int → Int) × Int) => RES r (sg bz M) isc v_.1 v_.2.1 v_.2.2.1 v_.2.2.2.1 v_.2.2.2.2.1 v_.2.2.2.2.2) (fun (v_ : Int × Int × Int × Int × (Int → Int) × Int) => wAr dA ar xR la ra sa qa (wVa dA xR wR crR v_.1 v_.2.1 v_.2.2.1 CR v_.2.2.2.1 (wWh dA wR gR v_.2.2.2.2.1 v_.2.2.2.2.2 (wWh dA a ga Fa ua [])))) A
abbrev rmAr_finish : Room := { frames := 3, cells := 0, slots := 0, locals := 104 }
set_option maxRecDepth 100000 in
set_option maxHeartbeats 1000000 in
theorem cAr_finish (l : Launch) (dC : Nat → ClassId) (dI : Nat → Nat → Nat) (dA : Nat → ClassId) (dS : Nat → Nat) (ar : Nat) (la : Nat) (ra : Nat) (sa : Nat) (qa : Nat) (xR : Nat) (wR : Nat) (crR : Nat) (tR : Int) (ngR : Int) (scR : Int) (CR : Int → Int) (lnR : Int) (gR : Nat) (FR : Int → Int) (uR : Int) (a : Nat) (ga : Nat) (Fa : Int → Int) (ua : Int) (M : Int) (bz : Int) (isc : Int) (hW : WR Fa ua M) (hbz : bz = 0 ∨ bz = 1) (sz : Nat) : Met l yAr_finish wsAr_finish rmAr_finish (PC (dC, dI) vwCl (tyA dA) (XC dS) [.ref ar, .ref a, .int (iI bz), .int (iI isc)] (wAr dA ar xR la ra sa qa (wVa dA xR wR crR tR ngR scR CR lnR (wWh dA wR gR FR uR (wWh dA a ga Fa ua [])))) sz) (qAr_finish dC dI dA dS ar la ra sa qa xR wR crR tR ngR scR CR lnR gR FR uR a ga Fa ua M bz isc (va_A (wAr dA ar xR la ra sa qa (wVa dA xR wR crR tR ngR scR CR lnR (wWh dA wR gR FR uR (wWh dA a ga Fa ua [])))) sz)) 0 0 (va_A (wAr dA ar xR la ra sa qa (wVa dA xR wR crR tR ngR scR CR lnR (wWh dA wR gR FR uR (wWh dA a ga Fa ua [])))) sz) := by
  refine met_of (cc := prog_2_method_12_code) (maxL := 4) (ret := (some .int)) (Qc := qAr_finish dC dI dA dS ar la ra sa qa xR wR crR tR ngR scR CR lnR gR FR uR a ga Fa ua M bz isc) (XC_ok dS) (by decide) rfl (Nat.le_of_ble_eq_true rfl) ?_
  intro p e s m below meth c ls A hx hb hr hml hown hts hlocks hnm hK hP hD hA hX hS hl
  have hl : lv_has ls 4 [(0, .ref ar), (1, .ref a), (2, .int (iI bz)), (3, .int (iI isc))] := hl
  have hown : s.vm.findClass "MacroReckoner$Arithmetic" = some m.cls := hown
  obtain ⟨H, hH⟩ : ∃ H : Heap, H = s.heap := ⟨_, rfl⟩
  obtain ⟨locs, hlo⟩ : ∃ L : List Loc, L = [] := ⟨_, rfl⟩
  have hP : va_P (dC, dI) vwCl (wAr dA ar xR la ra sa qa (wVa dA xR wR crR tR ngR scR CR lnR (wWh dA wR gR FR uR (wWh dA a ga Fa ua [])))) H := hH ▸ hP
  have hS : va_S A s.heap H locs := by rw [hH, hlo]; exact hS
  suffices hgo : W p l e rmAr_finish s m [.ref ar, .ref a, .int (iI bz), .int (iI isc)].toArray below meth c H locs 0 0 (MQ below (qAr_finish dC dI dA dS ar la ra sa qa xR wR crR tR ngR scR CR lnR gR FR uR a ga Fa ua M bz isc A) [.ref ar, .ref a, .int (iI bz), .int (iI isc)].toArray s 0 0 A) (F0 m 0 ls []) by rw [hH, hlo] at hgo; exact hgo
  clear hH hlo
  refine lv_aload_n hx hb dAr_finish_0 rfl (lv_at hl 1 rfl) ?_
  refine cv_i (va_runV (C := "MacroReckoner$Whole") (As := []) (rest := []) ⟨hx, hb, hml, hown, hts⟩ (cWh_size l dC dI dA dS a ga Fa ua M (by exact hW) H.size) (cwV 0 hts (gdV wt3_87 wt3_31 wt3_32 wt1_5 wt3_33) rfl rfl rfl ⟨rfl, by decide, by decide, by decide +kernel⟩ ⟨by decide, by decide⟩) (preV (q := ("MacroReckoner$Whole", TWh, 2)) hK hP hD hS hA (XC_ok dS) hX [5, 6] rfl rfl 0 rfl rfl) rfl rfl hl.1 rfl (lv_room (Nat.le_of_ble_eq_true rfl)) dAr_finish_1 ⟨Nat.zero_le _, Nat.zero_le _⟩) hP hD hS hA [5, 6] [0, 1, 2, 3, 4] rfl (fun v_ => wAr dA ar xR la ra sa qa (wVa dA xR wR crR tR ngR scR CR lnR (wWh dA wR gR FR uR (wWh dA a ga Fa ua [])))) (fun _ => rfl) (wAr dA ar xR la ra sa qa (wVa dA xR wR crR tR ngR scR CR lnR (wWh dA wR gR FR uR []))) rfl (fun _ => rfl) [ar, xR, crR, wR, gR, a, ga] rfl (fun _ => rfl) (fun _ => rfl) (fun r1 u_ H locs hq1 hP hD hS => ?_)
  have hP : va_P (dC, dI) vwCl (wAr dA ar xR la ra sa qa (wVa dA xR wR crR tR ngR scR CR lnR (wWh dA wR gR FR uR (wWh dA a ga Fa ua [])))) H := hP
  have hD : va_D A (wAr dA ar xR la ra sa qa (wVa dA xR wR crR tR ngR scR CR lnR (wWh dA wR gR FR uR (wWh dA a ga Fa ua [])))) := hD
  have hq1 : DL M r1 := hq1
  have hdl := WR_dl hW hq1
  have hM0 := (WR_bd hW).1
  refine lv_bipush (v := iI 60) hx hb dAr_finish_4 (by decide) ?_
  refine iv_icmp_le (tgt := 12) hx hb dAr_finish_6 (by decide) ⟨by omega, by omega⟩ ⟨by decide, by decide⟩ (fun hc6 => ?_) (fun hc6 => ?_)
  · refine lv_aload_n hx hb dAr_finish_12 rfl (lv_at hl 0 rfl) ?_
    refine va_get (D := (dC, dI)) (ci := 0) (v := .ref xR) (C := "MacroReckoner$Arithmetic") (T := TAr) (N := 5) hx hb hts inAr hown hK hP 0 rfl rfl 0 (by decide) (hts _ wt1_142) (fun _ h9 => h9) rfl dAr_finish_13 ?_
    refine lv_aload_n hx hb dAr_finish_16 rfl (lv_at hl 1 rfl) ?_
    refine lv_iload_n hx hb dAr_finish_17 rfl (lv_at hl 2 rfl) ?_
    refine lv_iload_n hx hb dAr_finish_18 rfl (lv_at hl 3 rfl) ?_
    refine cv_v (va_runV (C := "MacroReckoner$Value") (As := [.ref a, .int (iI bz), .int (iI isc)]) (rest := []) ⟨hx, hb, hml, hown, hts⟩ (cVa_becomeNumber l dC dI dA xR wR crR tR ngR scR CR lnR gR FR uR a ga Fa ua M bz isc (by exact hW) (by exact hbz) H.size) (cwV 3 hts (gdV wt3_88 wt3_89 wt3_90 wt1_4 wt3_91) rfl rfl rfl ⟨rfl, by decide, by decide, by decide +kernel⟩ ⟨by decide, by decide⟩) (preV (q := ("MacroReckoner$Value", TVa, 6)) hK hP hD hS hA XN_ok trivial [1, 2, 3, 4, 5, 6] rfl rfl 0 rfl rfl) rfl rfl hl.1 rfl (lv_room (Nat.le_of_ble_eq_true rfl)) dAr_finish_19 ⟨Nat.zero_le _, Nat.zero_le _⟩) hP hD hS hA [1, 2, 3, 4, 5, 6] [0] rfl (fun v_ => wAr dA ar xR la ra sa qa (wVa dA xR wR crR 0 v_.2 isc CR 0 (wWh dA wR gR v_.1 ua (wWh dA a ga Fa ua [])))) (fun _ => rfl) (wAr dA ar xR la ra sa qa []) rfl (fun _ => rfl) [ar, xR, crR, wR, gR, a, ga] rfl (fun _ => rfl) (fun _ => rfl) (fun u_ H locs hq19 hP hD hS => ?_)
    obtain ⟨F9, ng9⟩ := u_
    have hP : va_P (dC, dI) vwCl (wAr dA ar xR la ra sa qa (wVa dA xR wR crR 0 ng9 isc CR 0 (wWh dA wR gR F9 ua (wWh dA a ga Fa ua [])))) H := hP
    have hD : va_D A (wAr dA ar xR la ra sa qa (wVa dA xR wR crR 0 ng9 isc CR 0 (wWh dA wR gR F9 ua (wWh dA a ga Fa ua [])))) := hD
    have hq19 : WR F9 ua M ∧ (ng9 = 0 ∨ ng9 = 1) ∧ (ng9 = 1 ↔ bz = 1 ∧ M ≠ 0) := hq19
    refine lv_iconst (v := iI 0) hx hb dAr_finish_22 rfl ?_
    exact rt_i hx hb hr hlocks hK hS dAr_finish_23 (0, ng9, isc, 0, F9, ua) hP hD (show RES 0 (sg bz M) isc 0 ng9 isc 0 F9 ua from by exact RES_0 hM0 hbz (DL_lt hq1 (by omega)) hq19.1 hq19.2.1 hq19.2.2)
  · refine lv_bipush (v := iI (-7)) hx hb dAr_finish_9 (by decide) ?_
    exact rt_i hx hb hr hlocks hK hS dAr_finish_11 (tR, ngR, scR, lnR, FR, uR) hP hD (show RES (-7) (sg bz M) isc tR ngR scR lnR FR uR from by exact RES_7 hM0 (DL_ge hq1 (by decide) (by omega)))

theorem dAr_level_0 : decode prog_2_method_9_code 0 = .ok (.aload_n 1, 1) := by decide +kernel
theorem dAr_level_1 : decode prog_2_method_9_code 1 = .ok (.getfield 56, 3) := by decide +kernel
theorem dAr_level_4 : decode prog_2_method_9_code 4 = .ok (.aload_n 2, 1) := by decide +kernel
theorem dAr_level_5 : decode prog_2_method_9_code 5 = .ok (.getfield 56, 3) := by decide +kernel
theorem dAr_level_8 : decode prog_2_method_9_code 8 = .ok (.invokestatic 60, 3) := by decide +kernel
theorem dAr_level_11 : decode prog_2_method_9_code 11 = .ok (.istore_n 3, 1) := by decide +kernel
theorem dAr_level_12 : decode prog_2_method_9_code 12 = .ok (.aload_n 0, 1) := by decide +kernel
theorem dAr_level_13 : decode prog_2_method_9_code 13 = .ok (.getfield 12, 3) := by decide +kernel
theorem dAr_level_16 : decode prog_2_method_9_code 16 = .ok (.aload_n 1, 1) := by decide +kernel
theorem dAr_level_17 : decode prog_2_method_9_code 17 = .ok (.getfield 69, 3) := by decide +kernel
theorem dAr_level_20 : decode prog_2_method_9_code 20 = .ok (.invokevirtual 105, 3) := by decide +kernel
theorem dAr_level_23 : decode prog_2_method_9_code 23 = .ok (.aload_n 0, 1) := by decide +kernel
theorem dAr_level_24 : decode prog_2_method_9_code 24 = .ok (.getfield 12, 3) := by decide +kernel
theorem dAr_level_27 : decode prog_2_method_9_code 27 = .ok (.iload_n 3, 1) := by decide +kernel
theorem dAr_level_28 : decode prog_2_method_9_code 28 = .ok (.aload_n 1, 1) := by decide +kernel
theorem dAr_level_29 : decode prog_2_method_9_code 29 = .ok (.getfield 56, 3) := by decide +kernel
theorem dAr_level_32 : decode prog_2_method_9_code 32 = .ok (.isub, 1) := by decide +kernel
theorem dAr_level_33 : decode prog_2_method_9_code 33 = .ok (.invokevirtual 108, 3) := by decide +kernel
theorem dAr_level_36 : decode prog_2_method_9_code 36 = .ok (.aload_n 0, 1) := by decide +kernel
theorem dAr_level_37 : decode prog_2_method_9_code 37 = .ok (.getfield 18, 3) := by decide +kernel
theorem dAr_level_40 : decode prog_2_method_9_code 40 = .ok (.aload_n 2, 1) := by decide +kernel
theorem dAr_level_41 : decode prog_2_method_9_code 41 = .ok (.getfield 69, 3) := by decide +kernel
theorem dAr_level_44 : decode prog_2_method_9_code 44 = .ok (.invokevirtual 105, 3) := by decide +kernel
theorem dAr_level_47 : decode prog_2_method_9_code 47 = .ok (.aload_n 0, 1) := by decide +kernel
theorem dAr_level_48 : decode prog_2_method_9_code 48 = .ok (.getfield 18, 3) := by decide +kernel
theorem dAr_level_51 : decode prog_2_method_9_code 51 = .ok (.iload_n 3, 1) := by decide +kernel
theorem dAr_level_52 : decode prog_2_method_9_code 52 = .ok (.aload_n 2, 1) := by decide +kernel
theorem dAr_level_53 : decode prog_2_method_9_code 53 = .ok (.getfield 56, 3) := by decide +kernel
theorem dAr_level_56 : decode prog_2_method_9_code 56 = .ok (.isub, 1) := by decide +kernel
theorem dAr_level_57 : decode prog_2_method_9_code 57 = .ok (.invokevirtual 108, 3) := by decide +kernel
theorem dAr_level_60 : decode prog_2_method_9_code 60 = .ok (.iload_n 3, 1) := by decide +kernel
theorem dAr_level_61 : decode prog_2_method_9_code 61 = .ok (.ireturn, 1) := by decide +kernel
abbrev qAr_level (dC : Nat → ClassId) (dI : Nat → Nat → Nat) (dA : Nat → ClassId) (dS : Nat → Nat) (ar : Nat) (la : Nat) (ra : Nat) (sa : Nat) (qa : Nat) (xR : Nat) (lg : Nat) (LF : Int → Int) (lu : Int) (rg : Nat) (RF : Int → Int) (ru : Int) (xx : Nat) (wx : Nat) (crx : Nat) (tx : Int) (ngx : Int) (scx : Int) (Cx : Int → Int) (lnx : Int) (gx : Nat) (Fx : Int → Int) (ux : Int) (Nx : Int) (xy : Nat) (wy : Nat) (cry : Nat) (ty : Int) (ngy : Int) (scy : Int) (Cy : Int → Int) (lny : Int) (gy : Nat) (Fy : Int → Int) (uy : Int) (Ny : Int) (A : Nat → Prop) : Array Value → State → Outcome → State → Prop := QI (dC, dI) vwCl (tyA dA) (fun (r : Int) (v_ : (Int → Int) × Int × (Int → Int) × Int) => r = max scx scy ∧ WR v_.1 v_.2.1 (Nx * PW 10 (max scx scy - scx)) ∧ WR v_.2.2.1 v_.2.2.2 (Ny * PW 10 (max scx scy - scy))) (fun (v_ : (Int → Int) × Int × (Int → Int) × Int) => wAr dA ar xR la ra sa qa (wWh dA la lg v_.1 v_.2.1 (wWh dA ra rg v_.2.2.1 v_.2.2.2 (wVa dA xx wx crx tx ngx scx Cx lnx (wWh dA wx gx Fx ux (wVa dA xy wy cry ty ngy scy Cy lny (wWh dA wy gy Fy uy []))))))) A
abbrev rmAr_level : Room := { frames := 2, cells := 0, slots := 0, locals := 83 }
set_option maxRecDepth 100000 in
set_option maxHeartbeats 1000000 in
theorem cAr_level (l : Launch) (dC : Nat → ClassId) (dI : Nat → Nat → Nat) (dA : Nat → ClassId) (dS : Nat → Nat) (ar : Nat) (la : Nat) (ra : Nat) (sa : Nat) (qa : Nat) (xR : Nat) (lg : Nat) (LF : Int → Int) (lu : Int) (rg : Nat) (RF : Int → Int) (ru : Int) (xx : Nat) (wx : Nat) (crx : Nat) (tx : Int) (ngx : Int) (scx : Int) (Cx : Int → Int) (lnx : Int) (gx : Nat) (Fx : Int → Int) (ux : Int) (Nx : Int) (xy : Nat) (wy : Nat) (cry : Nat) (ty : Int) (ngy : Int) (scy : Int) (Cy : Int → Int) (lny : Int) (gy : Nat) (Fy : Int → Int) (uy : Int) (Ny : Int) (hVx : VV tx ngx scx lnx Cx Nx) (hWx : WR Fx ux Nx) (hVy : VV ty ngy scy lny Cy Ny) (hWy : WR Fy uy Ny) (sz : Nat) : Met l yAr_level wsAr_level rmAr_level (PC (dC, dI) vwCl (tyA dA) (XC dS) [.ref ar, .ref xx, .ref xy] (wAr dA ar xR la ra sa qa (wWh dA la lg LF lu (wWh dA ra rg RF ru (wVa dA xx wx crx tx ngx scx Cx lnx (wWh dA wx gx Fx ux (wVa dA xy wy cry ty ngy scy Cy lny (wWh dA wy gy Fy uy []))))))) sz) (qAr_level dC dI dA dS ar la ra sa qa xR lg LF lu rg RF ru xx wx crx tx ngx scx Cx lnx gx Fx ux Nx xy wy cry ty ngy scy Cy lny gy Fy uy Ny (va_A (wAr dA ar xR la ra sa qa (wWh dA la lg LF lu (wWh dA ra rg RF ru (wVa dA xx wx crx tx ngx scx Cx lnx (wWh dA wx gx Fx ux (wVa dA xy wy cry ty ngy scy Cy lny (wWh dA wy gy Fy uy []))))))) sz)) 0 0 (va_A (wAr dA ar xR la ra sa qa (wWh dA la lg LF lu (wWh dA ra rg RF ru (wVa dA xx wx crx tx ngx scx Cx lnx (wWh dA wx gx Fx ux (wVa dA xy wy cry ty ngy scy Cy lny (wWh dA wy gy Fy uy []))))))) sz) := by
  refine met_of (cc := prog_2_method_9_code) (maxL := 4) (ret := (some .int)) (Qc := qAr_level dC dI dA dS ar la ra sa qa xR lg LF lu rg RF ru xx wx crx tx ngx scx Cx lnx gx Fx ux Nx xy wy cry ty ngy scy Cy lny gy Fy uy Ny) (XC_ok dS) (by decide) rfl (Nat.le_of_ble_eq_true rfl) ?_
  intro p e s m below meth c ls A hx hb hr hml hown hts hlocks hnm hK hP hD hA hX hS hl
  have hl : lv_has ls 4 [(0, .ref ar), (1, .ref xx), (2, .ref xy)] := hl
  have hown : s.vm.findClass "MacroReckoner$Arithmetic" = some m.cls := hown
  obtain ⟨H, hH⟩ : ∃ H : Heap, H = s.heap := ⟨_, rfl⟩
  obtain ⟨locs, hlo⟩ : ∃ L : List Loc, L = [] := ⟨_, rfl⟩
  have hP : va_P (dC, dI) vwCl (wAr dA ar xR la ra sa qa (wWh dA la lg LF lu (wWh dA ra rg RF ru (wVa dA xx wx crx tx ngx scx Cx lnx (wWh dA wx gx Fx ux (wVa dA xy wy cry ty ngy scy Cy lny (wWh dA wy gy Fy uy []))))))) H := hH ▸ hP
  have hS : va_S A s.heap H locs := by rw [hH, hlo]; exact hS
  suffices hgo : W p l e rmAr_level s m [.ref ar, .ref xx, .ref xy].toArray below meth c H locs 0 0 (MQ below (qAr_level dC dI dA dS ar la ra sa qa xR lg LF lu rg RF ru xx wx crx tx ngx scx Cx lnx gx Fx ux Nx xy wy cry ty ngy scy Cy lny gy Fy uy Ny A) [.ref ar, .ref xx, .ref xy].toArray s 0 0 A) (F0 m 0 ls []) by rw [hH, hlo] at hgo; exact hgo
  clear hH hlo
  obtain ⟨-, hngx, hscx, -, -, -, -, hx3, hx4⟩ := hVx
  have hNx0 := (WR_bd hWx).1
  obtain ⟨-, hngy, hscy, -, -, -, -, hy3, hy4⟩ := hVy
  have hNy0 := (WR_bd hWy).1
  have hbx := w60 hNx0 hx4 (show 0 ≤ max scx scy - scx by omega) (by omega)
  have hby := w60 hNy0 hy4 (show 0 ≤ max scx scy - scy by omega) (by omega)
  refine lv_aload_n hx hb dAr_level_0 rfl (lv_at hl 1 rfl) ?_
  refine va_getN (D := (dC, dI)) (ci := 4) (v := .int (iI scx)) (C := "MacroReckoner$Value") (T := TVa) (N := 6) hx hb hts inVa hown hK hP 5 rfl rfl 3 (by decide) (va_Nw.use rfl (hX.1 ("MacroReckoner$Arithmetic", 56, "MacroReckoner$Value", "scale", "I", "MacroReckoner") (List.mem_of_getElem? (i := 16) rfl))) (fun _ h9 => h9) rfl dAr_level_1 ?_
  refine lv_aload_n hx hb dAr_level_4 rfl (lv_at hl 2 rfl) ?_
  refine va_getN (D := (dC, dI)) (ci := 4) (v := .int (iI scy)) (C := "MacroReckoner$Value") (T := TVa) (N := 6) hx hb hts inVa hown hK hP 9 rfl rfl 3 (by decide) (va_Nw.use rfl (hX.1 ("MacroReckoner$Arithmetic", 56, "MacroReckoner$Value", "scale", "I", "MacroReckoner") (List.mem_of_getElem? (i := 16) rfl))) (fun _ h9 => h9) rfl dAr_level_5 ?_
  refine iv_mmax hx hb (hml.trans hl.1.symm) hown (hts _ wt3_70) (hts _ wt2_178) (hts _ wt1_16) (hts _ wt2_179) (by decide) (Nat.le_of_ble_eq_true rfl) (Nat.zero_le _) (Nat.zero_le _) dAr_level_8 ⟨by omega, by omega⟩ ⟨by omega, by omega⟩ ?_
  refine lv_istore_n (lv' := [(3, .int (iI (max scx scy))), (0, .ref ar), (1, .ref xx), (2, .ref xy)]) hx hb dAr_level_11 rfl hl (by decide) rfl (fun ls hl => ?_)
  refine lv_aload_n hx hb dAr_level_12 rfl (lv_at hl 1 rfl) ?_
  refine va_get (D := (dC, dI)) (ci := 0) (v := .ref la) (C := "MacroReckoner$Arithmetic") (T := TAr) (N := 5) hx hb hts inAr hown hK hP 0 rfl rfl 1 (by decide) (hts _ wt1_143) (fun _ h9 => h9) rfl dAr_level_13 ?_
  refine lv_aload_n hx hb dAr_level_16 rfl (lv_at hl 2 rfl) ?_
  refine va_getN (D := (dC, dI)) (ci := 4) (v := .ref wx) (C := "MacroReckoner$Value") (T := TVa) (N := 6) hx hb hts inVa hown hK hP 5 rfl rfl 1 (by decide) (va_Nw.use rfl (hX.1 ("MacroReckoner$Arithmetic", 69, "MacroReckoner$Value", "whole", "LMacroReckoner$Whole;", "MacroReckoner") (List.mem_of_getElem? (i := 10) rfl))) (fun _ h9 => h9) rfl dAr_level_17 ?_
  refine cv_v (va_runV (C := "MacroReckoner$Whole") (As := [.ref wx]) (rest := []) ⟨hx, hb, hml, hown, hts⟩ (cWh_become l dC dI dA la lg LF lu wx gx Fx ux Nx (by exact hWx) H.size) (cwV 1 hts (gdV wt3_71 wt3_45 wt3_46 wt1_5 wt3_47) rfl rfl rfl ⟨rfl, by decide, by decide, by decide +kernel⟩ ⟨by decide, by decide⟩) (preV (q := ("MacroReckoner$Whole", TWh, 2)) hK hP hD hS hA XN_ok trivial [1, 2, 7, 8] rfl rfl 0 rfl rfl) rfl rfl hl.1 rfl (lv_room (Nat.le_of_ble_eq_true rfl)) dAr_level_20 ⟨Nat.zero_le _, Nat.zero_le _⟩) hP hD hS hA [1, 2, 7, 8] [0, 3, 4, 5, 6, 9, 10, 11, 12] rfl (fun v_ => wAr dA ar xR la ra sa qa (wWh dA la lg v_ ux (wWh dA ra rg RF ru (wVa dA xx wx crx tx ngx scx Cx lnx (wWh dA wx gx Fx ux (wVa dA xy wy cry ty ngy scy Cy lny (wWh dA wy gy Fy uy []))))))) (fun _ => rfl) (wAr dA ar xR la ra sa qa (wWh dA ra rg RF ru (wVa dA xx wx crx tx ngx scx Cx lnx (wVa dA xy wy cry ty ngy scy Cy lny (wWh dA wy gy Fy uy []))))) rfl (fun _ => rfl) [ar, la, lg, ra, rg, xx, crx, wx, gx, xy, cry, wy, gy] rfl (fun _ => rfl) (fun _ => rfl) (fun u_ H locs hq20 hP hD hS => ?_)
  obtain ⟨LA, rfl⟩ : ∃ z, z = u_ := ⟨_, rfl⟩
  have hP : va_P (dC, dI) vwCl (wAr dA ar xR la ra sa qa (wWh dA la lg LA ux (wWh dA ra rg RF ru (wVa dA xx wx crx tx ngx scx Cx lnx (wWh dA wx gx Fx ux (wVa dA xy wy cry ty ngy scy Cy lny (wWh dA wy gy Fy uy []))))))) H := hP
  have hD : va_D A (wAr dA ar xR la ra sa qa (wWh dA la lg LA ux (wWh dA ra rg RF ru (wVa dA xx wx crx tx ngx scx Cx lnx (wWh dA wx gx Fx ux (wVa dA xy wy cry ty ngy scy Cy lny (wWh dA wy gy Fy uy []))))))) := hD
  have hq20 : WR LA ux Nx := hq20
  refine lv_aload_n hx hb dAr_level_23 rfl (lv_at hl 1 rfl) ?_
  refine va_get (D := (dC, dI)) (ci := 0) (v := .ref la) (C := "MacroReckoner$Arithmetic") (T := TAr) (N := 5) hx hb hts inAr hown hK hP 0 rfl rfl 1 (by decide) (hts _ wt1_143) (fun _ h9 => h9) rfl dAr_level_24 ?_
  refine lv_iload_n hx hb dAr_level_27 rfl (lv_at hl 0 rfl) ?_
  refine lv_aload_n hx hb dAr_level_28 rfl (lv_at hl 2 rfl) ?_
  refine va_getN (D := (dC, dI)) (ci := 4) (v := .int (iI scx)) (C := "MacroReckoner$Value") (T := TVa) (N := 6) hx hb hts inVa hown hK hP 5 rfl rfl 3 (by decide) (va_Nw.use rfl (hX.1 ("MacroReckoner$Arithmetic", 56, "MacroReckoner$Value", "scale", "I", "MacroReckoner") (List.mem_of_getElem? (i := 16) rfl))) (fun _ h9 => h9) rfl dAr_level_29 ?_
  refine iv_isub hx hb dAr_level_32 ?_
  refine cv_v (va_runV (C := "MacroReckoner$Whole") (As := [.int (iI ((max scx scy) - scx))]) (rest := []) ⟨hx, hb, hml, hown, hts⟩ (cWh_widen l dC dI dA dS la lg LA ux Nx ((max scx scy) - scx) (by exact hq20) (by omega) (by exact hbx.2.1) H.size) (cwV 1 hts (gdV wt3_72 wt3_73 wt3_74 wt1_5 wt3_75) rfl rfl rfl ⟨rfl, by decide, by decide, by decide +kernel⟩ ⟨by decide, by decide⟩) (preV (q := ("MacroReckoner$Whole", TWh, 2)) hK hP hD hS hA (XC_ok dS) hX [1, 2] rfl rfl 0 rfl rfl) rfl rfl hl.1 rfl (lv_room (Nat.le_of_ble_eq_true rfl)) dAr_level_33 ⟨Nat.zero_le _, Nat.zero_le _⟩) hP hD hS hA [1, 2] [0, 3, 4, 5, 6, 7, 8, 9, 10, 11, 12] rfl (fun v_ => wAr dA ar xR la ra sa qa (wWh dA la lg v_.1 v_.2 (wWh dA ra rg RF ru (wVa dA xx wx crx tx ngx scx Cx lnx (wWh dA wx gx Fx ux (wVa dA xy wy cry ty ngy scy Cy lny (wWh dA wy gy Fy uy []))))))) (fun _ => rfl) (wAr dA ar xR la ra sa qa (wWh dA ra rg RF ru (wVa dA xx wx crx tx ngx scx Cx lnx (wWh dA wx gx Fx ux (wVa dA xy wy cry ty ngy scy Cy lny (wWh dA wy gy Fy uy [])))))) rfl (fun _ => rfl) [ar, la, lg, ra, rg, xx, crx, wx, gx, xy, cry, wy, gy] rfl (fun _ => rfl) (fun _ => rfl) (fun u_ H locs hq33 hP hD hS => ?_)
  obtain ⟨LB, lub⟩ := u_
  have hP : va_P (dC, dI) vwCl (wAr dA ar xR la ra sa qa (wWh dA la lg LB lub (wWh dA ra rg RF ru (wVa dA xx wx crx tx ngx scx Cx lnx (wWh dA wx gx Fx ux (wVa dA xy wy cry ty ngy scy Cy lny (wWh dA wy gy Fy uy []))))))) H := hP
  have hD : va_D A (wAr dA ar xR la ra sa qa (wWh dA la lg LB lub (wWh dA ra rg RF ru (wVa dA xx wx crx tx ngx scx Cx lnx (wWh dA wx gx Fx ux (wVa dA xy wy cry ty ngy scy Cy lny (wWh dA wy gy Fy uy []))))))) := hD
  have hq33 : WR LB lub (Nx * PW 10 ((max scx scy) - scx)) := hq33
  refine lv_aload_n hx hb dAr_level_36 rfl (lv_at hl 1 rfl) ?_
  refine va_get (D := (dC, dI)) (ci := 0) (v := .ref ra) (C := "MacroReckoner$Arithmetic") (T := TAr) (N := 5) hx hb hts inAr hown hK hP 0 rfl rfl 2 (by decide) (hts _ wt1_144) (fun _ h9 => h9) rfl dAr_level_37 ?_
  refine lv_aload_n hx hb dAr_level_40 rfl (lv_at hl 3 rfl) ?_
  refine va_getN (D := (dC, dI)) (ci := 4) (v := .ref wy) (C := "MacroReckoner$Value") (T := TVa) (N := 6) hx hb hts inVa hown hK hP 9 rfl rfl 1 (by decide) (va_Nw.use rfl (hX.1 ("MacroReckoner$Arithmetic", 69, "MacroReckoner$Value", "whole", "LMacroReckoner$Whole;", "MacroReckoner") (List.mem_of_getElem? (i := 10) rfl))) (fun _ h9 => h9) rfl dAr_level_41 ?_
  refine cv_v (va_runV (C := "MacroReckoner$Whole") (As := [.ref wy]) (rest := []) ⟨hx, hb, hml, hown, hts⟩ (cWh_become l dC dI dA ra rg RF ru wy gy Fy uy Ny (by exact hWy) H.size) (cwV 1 hts (gdV wt3_71 wt3_45 wt3_46 wt1_5 wt3_47) rfl rfl rfl ⟨rfl, by decide, by decide, by decide +kernel⟩ ⟨by decide, by decide⟩) (preV (q := ("MacroReckoner$Whole", TWh, 2)) hK hP hD hS hA XN_ok trivial [3, 4, 11, 12] rfl rfl 0 rfl rfl) rfl rfl hl.1 rfl (lv_room (Nat.le_of_ble_eq_true rfl)) dAr_level_44 ⟨Nat.zero_le _, Nat.zero_le _⟩) hP hD hS hA [3, 4, 11, 12] [0, 1, 2, 5, 6, 7, 8, 9, 10] rfl (fun v_ => wAr dA ar xR la ra sa qa (wWh dA la lg LB lub (wWh dA ra rg v_ uy (wVa dA xx wx crx tx ngx scx Cx lnx (wWh dA wx gx Fx ux (wVa dA xy wy cry ty ngy scy Cy lny (wWh dA wy gy Fy uy []))))))) (fun _ => rfl) (wAr dA ar xR la ra sa qa (wWh dA la lg LB lub (wVa dA xx wx crx tx ngx scx Cx lnx (wWh dA wx gx Fx ux (wVa dA xy wy cry ty ngy scy Cy lny []))))) rfl (fun _ => rfl) [ar, la, lg, ra, rg, xx, crx, wx, gx, xy, cry, wy, gy] rfl (fun _ => rfl) (fun _ => rfl) (fun u_ H locs hq44 hP hD hS => ?_)
  obtain ⟨RA, rfl⟩ : ∃ z, z = u_ := ⟨_, rfl⟩
  have hP : va_P (dC, dI) vwCl (wAr dA ar xR la ra sa qa (wWh dA la lg LB lub (wWh dA ra rg RA uy (wVa dA xx wx crx tx ngx scx Cx lnx (wWh dA wx gx Fx ux (wVa dA xy wy cry ty ngy scy Cy lny (wWh dA wy gy Fy uy []))))))) H := hP
  have hD : va_D A (wAr dA ar xR la ra sa qa (wWh dA la lg LB lub (wWh dA ra rg RA uy (wVa dA xx wx crx tx ngx scx Cx lnx (wWh dA wx gx Fx ux (wVa dA xy wy cry ty ngy scy Cy lny (wWh dA wy gy Fy uy []))))))) := hD
  have hq44 : WR RA uy Ny := hq44
  refine lv_aload_n hx hb dAr_level_47 rfl (lv_at hl 1 rfl) ?_
  refine va_get (D := (dC, dI)) (ci := 0) (v := .ref ra) (C := "MacroReckoner$Arithmetic") (T := TAr) (N := 5) hx hb hts inAr hown hK hP 0 rfl rfl 2 (by decide) (hts _ wt1_144) (fun _ h9 => h9) rfl dAr_level_48 ?_
  refine lv_iload_n hx hb dAr_level_51 rfl (lv_at hl 0 rfl) ?_
  refine lv_aload_n hx hb dAr_level_52 rfl (lv_at hl 3 rfl) ?_
  refine va_getN (D := (dC, dI)) (ci := 4) (v := .int (iI scy)) (C := "MacroReckoner$Value") (T := TVa) (N := 6) hx hb hts inVa hown hK hP 9 rfl rfl 3 (by decide) (va_Nw.use rfl (hX.1 ("MacroReckoner$Arithmetic", 56, "MacroReckoner$Value", "scale", "I", "MacroReckoner") (List.mem_of_getElem? (i := 16) rfl))) (fun _ h9 => h9) rfl dAr_level_53 ?_
  refine iv_isub hx hb dAr_level_56 ?_
  refine cv_v (va_runV (C := "MacroReckoner$Whole") (As := [.int (iI ((max scx scy) - scy))]) (rest := []) ⟨hx, hb, hml, hown, hts⟩ (cWh_widen l dC dI dA dS ra rg RA uy Ny ((max scx scy) - scy) (by exact hq44) (by omega) (by exact hby.2.1) H.size) (cwV 1 hts (gdV wt3_72 wt3_73 wt3_74 wt1_5 wt3_75) rfl rfl rfl ⟨rfl, by decide, by decide, by decide +kernel⟩ ⟨by decide, by decide⟩) (preV (q := ("MacroReckoner$Whole", TWh, 2)) hK hP hD hS hA (XC_ok dS) hX [3, 4] rfl rfl 0 rfl rfl) rfl rfl hl.1 rfl (lv_room (Nat.le_of_ble_eq_true rfl)) dAr_level_57 ⟨Nat.zero_le _, Nat.zero_le _⟩) hP hD hS hA [3, 4] [0, 1, 2, 5, 6, 7, 8, 9, 10, 11, 12] rfl (fun v_ => wAr dA ar xR la ra sa qa (wWh dA la lg LB lub (wWh dA ra rg v_.1 v_.2 (wVa dA xx wx crx tx ngx scx Cx lnx (wWh dA wx gx Fx ux (wVa dA xy wy cry ty ngy scy Cy lny (wWh dA wy gy Fy uy []))))))) (fun _ => rfl) (wAr dA ar xR la ra sa qa (wWh dA la lg LB lub (wVa dA xx wx crx tx ngx scx Cx lnx (wWh dA wx gx Fx ux (wVa dA xy wy cry ty ngy scy Cy lny (wWh dA wy gy Fy uy [])))))) rfl (fun _ => rfl) [ar, la, lg, ra, rg, xx, crx, wx, gx, xy, cry, wy, gy] rfl (fun _ => rfl) (fun _ => rfl) (fun u_ H locs hq57 hP hD hS => ?_)
  obtain ⟨RB, rub⟩ := u_
  have hP : va_P (dC, dI) vwCl (wAr dA ar xR la ra sa qa (wWh dA la lg LB lub (wWh dA ra rg RB rub (wVa dA xx wx crx tx ngx scx Cx lnx (wWh dA wx gx Fx ux (wVa dA xy wy cry ty ngy scy Cy lny (wWh dA wy gy Fy uy []))))))) H := hP
  have hD : va_D A (wAr dA ar xR la ra sa qa (wWh dA la lg LB lub (wWh dA ra rg RB rub (wVa dA xx wx crx tx ngx scx Cx lnx (wWh dA wx gx Fx ux (wVa dA xy wy cry ty ngy scy Cy lny (wWh dA wy gy Fy uy []))))))) := hD
  have hq57 : WR RB rub (Ny * PW 10 ((max scx scy) - scy)) := hq57
  refine lv_iload_n hx hb dAr_level_60 rfl (lv_at hl 0 rfl) ?_
  exact rt_i hx hb hr hlocks hK hS dAr_level_61 (LB, lub, RB, rub) hP hD (show (max scx scy) = max scx scy ∧ WR LB lub (Nx * PW 10 (max scx scy - scx)) ∧ WR RB rub (Ny * PW 10 (max scx scy - scy)) from by exact ⟨rfl, hq33, hq57⟩)

theorem dAr_align_0 : decode prog_2_method_10_code 0 = .ok (.iload_n 3, 1) := by decide +kernel
theorem dAr_align_1 : decode prog_2_method_10_code 1 = .ok (.aload_n 2, 1) := by decide +kernel
theorem dAr_align_2 : decode prog_2_method_10_code 2 = .ok (.getfield 56, 3) := by decide +kernel
theorem dAr_align_5 : decode prog_2_method_10_code 5 = .ok (.iadd, 1) := by decide +kernel
theorem dAr_align_6 : decode prog_2_method_10_code 6 = .ok (.aload_n 1, 1) := by decide +kernel
theorem dAr_align_7 : decode prog_2_method_10_code 7 = .ok (.getfield 56, 3) := by decide +kernel
theorem dAr_align_10 : decode prog_2_method_10_code 10 = .ok (.isub, 1) := by decide +kernel
theorem dAr_align_11 : decode prog_2_method_10_code 11 = .ok (.istore 4, 2) := by decide +kernel
theorem dAr_align_13 : decode prog_2_method_10_code 13 = .ok (.aload_n 0, 1) := by decide +kernel
theorem dAr_align_14 : decode prog_2_method_10_code 14 = .ok (.getfield 12, 3) := by decide +kernel
theorem dAr_align_17 : decode prog_2_method_10_code 17 = .ok (.aload_n 1, 1) := by decide +kernel
theorem dAr_align_18 : decode prog_2_method_10_code 18 = .ok (.getfield 69, 3) := by decide +kernel
theorem dAr_align_21 : decode prog_2_method_10_code 21 = .ok (.invokevirtual 105, 3) := by decide +kernel
theorem dAr_align_24 : decode prog_2_method_10_code 24 = .ok (.aload_n 0, 1) := by decide +kernel
theorem dAr_align_25 : decode prog_2_method_10_code 25 = .ok (.getfield 12, 3) := by decide +kernel
theorem dAr_align_28 : decode prog_2_method_10_code 28 = .ok (.iload 4, 2) := by decide +kernel
theorem dAr_align_30 : decode prog_2_method_10_code 30 = .ok (.iconst 0, 1) := by decide +kernel
theorem dAr_align_31 : decode prog_2_method_10_code 31 = .ok (.invokestatic 60, 3) := by decide +kernel
theorem dAr_align_34 : decode prog_2_method_10_code 34 = .ok (.invokevirtual 108, 3) := by decide +kernel
theorem dAr_align_37 : decode prog_2_method_10_code 37 = .ok (.aload_n 0, 1) := by decide +kernel
theorem dAr_align_38 : decode prog_2_method_10_code 38 = .ok (.getfield 18, 3) := by decide +kernel
theorem dAr_align_41 : decode prog_2_method_10_code 41 = .ok (.aload_n 2, 1) := by decide +kernel
theorem dAr_align_42 : decode prog_2_method_10_code 42 = .ok (.getfield 69, 3) := by decide +kernel
theorem dAr_align_45 : decode prog_2_method_10_code 45 = .ok (.invokevirtual 105, 3) := by decide +kernel
theorem dAr_align_48 : decode prog_2_method_10_code 48 = .ok (.aload_n 0, 1) := by decide +kernel
theorem dAr_align_49 : decode prog_2_method_10_code 49 = .ok (.getfield 18, 3) := by decide +kernel
theorem dAr_align_52 : decode prog_2_method_10_code 52 = .ok (.iload 4, 2) := by decide +kernel
theorem dAr_align_54 : decode prog_2_method_10_code 54 = .ok (.ineg, 1) := by decide +kernel
theorem dAr_align_55 : decode prog_2_method_10_code 55 = .ok (.iconst 0, 1) := by decide +kernel
theorem dAr_align_56 : decode prog_2_method_10_code 56 = .ok (.invokestatic 60, 3) := by decide +kernel
theorem dAr_align_59 : decode prog_2_method_10_code 59 = .ok (.invokevirtual 108, 3) := by decide +kernel
theorem dAr_align_62 : decode prog_2_method_10_code 62 = .ok (.return_, 1) := by decide +kernel
abbrev qAr_align (dC : Nat → ClassId) (dI : Nat → Nat → Nat) (dA : Nat → ClassId) (dS : Nat → Nat) (ar : Nat) (la : Nat) (ra : Nat) (sa : Nat) (qa : Nat) (xR : Nat) (lg : Nat) (LF : Int → Int) (lu : Int) (rg : Nat) (RF : Int → Int) (ru : Int) (xx : Nat) (wx : Nat) (crx : Nat) (tx : Int) (ngx : Int) (scx : Int) (Cx : Int → Int) (lnx : Int) (gx : Nat) (Fx : Int → Int) (ux : Int) (Nx : Int) (xy : Nat) (wy : Nat) (cry : Nat) (ty : Int) (ngy : Int) (scy : Int) (Cy : Int → Int) (lny : Int) (gy : Nat) (Fy : Int → Int) (uy : Int) (Ny : Int) (ws : Int) (A : Nat → Prop) : Array Value → State → Outcome → State → Prop := QV (dC, dI) vwCl (tyA dA) (fun (v_ : (Int → Int) × Int × (Int → Int) × Int) => WR v_.1 v_.2.1 (Nx * PW 10 (max (ws + scy - scx) 0)) ∧ WR v_.2.2.1 v_.2.2.2 (Ny * PW 10 (max (-(ws + scy - scx)) 0))) (fun (v_ : (Int → Int) × Int × (Int → Int) × Int) => wAr dA ar xR la ra sa qa (wWh dA la lg v_.1 v_.2.1 (wWh dA ra rg v_.2.2.1 v_.2.2.2 (wVa dA xx wx crx tx ngx scx Cx lnx (wWh dA wx gx Fx ux (wVa dA xy wy cry ty ngy scy Cy lny (wWh dA wy gy Fy uy []))))))) A
abbrev rmAr_align : Room := { frames := 2, cells := 0, slots := 0, locals := 83 }
set_option maxRecDepth 100000 in
set_option maxHeartbeats 1000000 in
theorem cAr_align (l : Launch) (dC : Nat → ClassId) (dI : Nat → Nat → Nat) (dA : Nat → ClassId) (dS : Nat → Nat) (ar : Nat) (la : Nat) (ra : Nat) (sa : Nat) (qa : Nat) (xR : Nat) (lg : Nat) (LF : Int → Int) (lu : Int) (rg : Nat) (RF : Int → Int) (ru : Int) (xx : Nat) (wx : Nat) (crx : Nat) (tx : Int) (ngx : Int) (scx : Int) (Cx : Int → Int) (lnx : Int) (gx : Nat) (Fx : Int → Int) (ux : Int) (Nx : Int) (xy : Nat) (wy : Nat) (cry : Nat) (ty : Int) (ngy : Int) (scy : Int) (Cy : Int → Int) (lny : Int) (gy : Nat) (Fy : Int → Int) (uy : Int) (Ny : Int) (ws : Int) (hVx : VV tx ngx scx lnx Cx Nx) (hWx : WR Fx ux Nx) (hVy : VV ty ngy scy lny Cy Ny) (hWy : WR Fy uy Ny) (hws : 0 ≤ ws ∧ ws ≤ 40) (sz : Nat) : Met l yAr_align wsAr_align rmAr_align (PC (dC, dI) vwCl (tyA dA) (XC dS) [.ref ar, .ref xx, .ref xy, .int (iI ws)] (wAr dA ar xR la ra sa qa (wWh dA la lg LF lu (wWh dA ra rg RF ru (wVa dA xx wx crx tx ngx scx Cx lnx (wWh dA wx gx Fx ux (wVa dA xy wy cry ty ngy scy Cy lny (wWh dA wy gy Fy uy []))))))) sz) (qAr_align dC dI dA dS ar la ra sa qa xR lg LF lu rg RF ru xx wx crx tx ngx scx Cx lnx gx Fx ux Nx xy wy cry ty ngy scy Cy lny gy Fy uy Ny ws (va_A (wAr dA ar xR la ra sa qa (wWh dA la lg LF lu (wWh dA ra rg RF ru (wVa dA xx wx crx tx ngx scx Cx lnx (wWh dA wx gx Fx ux (wVa dA xy wy cry ty ngy scy Cy lny (wWh dA wy gy Fy uy []))))))) sz)) 0 0 (va_A (wAr dA ar xR la ra sa qa (wWh dA la lg LF lu (wWh dA ra rg RF ru (wVa dA xx wx crx tx ngx scx Cx lnx (wWh dA wx gx Fx ux (wVa dA xy wy cry ty ngy scy Cy lny (wWh dA wy gy Fy uy []))))))) sz) := by
  refine met_of (cc := prog_2_method_10_code) (maxL := 5) (ret := none) (Qc := qAr_align dC dI dA dS ar la ra sa qa xR lg LF lu rg RF ru xx wx crx tx ngx scx Cx lnx gx Fx ux Nx xy wy cry ty ngy scy Cy lny gy Fy uy Ny ws) (XC_ok dS) (by decide) rfl (Nat.le_of_ble_eq_true rfl) ?_
  intro p e s m below meth c ls A hx hb hr hml hown hts hlocks hnm hK hP hD hA hX hS hl
  have hl : lv_has ls 5 [(0, .ref ar), (1, .ref xx), (2, .ref xy), (3, .int (iI ws))] := hl
  have hown : s.vm.findClass "MacroReckoner$Arithmetic" = some m.cls := hown
  obtain ⟨H, hH⟩ : ∃ H : Heap, H = s.heap := ⟨_, rfl⟩
  obtain ⟨locs, hlo⟩ : ∃ L : List Loc, L = [] := ⟨_, rfl⟩
  have hP : va_P (dC, dI) vwCl (wAr dA ar xR la ra sa qa (wWh dA la lg LF lu (wWh dA ra rg RF ru (wVa dA xx wx crx tx ngx scx Cx lnx (wWh dA wx gx Fx ux (wVa dA xy wy cry ty ngy scy Cy lny (wWh dA wy gy Fy uy []))))))) H := hH ▸ hP
  have hS : va_S A s.heap H locs := by rw [hH, hlo]; exact hS
  suffices hgo : W p l e rmAr_align s m [.ref ar, .ref xx, .ref xy, .int (iI ws)].toArray below meth c H locs 0 0 (MQ below (qAr_align dC dI dA dS ar la ra sa qa xR lg LF lu rg RF ru xx wx crx tx ngx scx Cx lnx gx Fx ux Nx xy wy cry ty ngy scy Cy lny gy Fy uy Ny ws A) [.ref ar, .ref xx, .ref xy, .int (iI ws)].toArray s 0 0 A) (F0 m 0 ls []) by rw [hH, hlo] at hgo; exact hgo
  clear hH hlo
  obtain ⟨-, hngx, hscx, -, -, -, -, hx3, hx4⟩ := hVx
  have hNx0 := (WR_bd hWx).1
  obtain ⟨-, hngy, hscy, -, -, -, -, hy3, hy4⟩ := hVy
  have hNy0 := (WR_bd hWy).1
  have hbx := w60 hNx0 hx4 (show 0 ≤ max (ws + scy - scx) 0 by omega) (by omega)
  have hby := w60 hNy0 hy4 (show 0 ≤ max (-(ws + scy - scx)) 0 by omega) (by omega)
  refine lv_iload_n hx hb dAr_align_0 rfl (lv_at hl 3 rfl) ?_
  refine lv_aload_n hx hb dAr_align_1 rfl (lv_at hl 2 rfl) ?_
  refine va_getN (D := (dC, dI)) (ci := 4) (v := .int (iI scy)) (C := "MacroReckoner$Value") (T := TVa) (N := 6) hx hb hts inVa hown hK hP 9 rfl rfl 3 (by decide) (va_Nw.use rfl (hX.1 ("MacroReckoner$Arithmetic", 56, "MacroReckoner$Value", "scale", "I", "MacroReckoner") (List.mem_of_getElem? (i := 16) rfl))) (fun _ h9 => h9) rfl dAr_align_2 ?_
  refine iv_iadd hx hb dAr_align_5 ?_
  refine lv_aload_n hx hb dAr_align_6 rfl (lv_at hl 1 rfl) ?_
  refine va_getN (D := (dC, dI)) (ci := 4) (v := .int (iI scx)) (C := "MacroReckoner$Value") (T := TVa) (N := 6) hx hb hts inVa hown hK hP 5 rfl rfl 3 (by decide) (va_Nw.use rfl (hX.1 ("MacroReckoner$Arithmetic", 56, "MacroReckoner$Value", "scale", "I", "MacroReckoner") (List.mem_of_getElem? (i := 16) rfl))) (fun _ h9 => h9) rfl dAr_align_7 ?_
  refine iv_isub hx hb dAr_align_10 ?_
  refine lv_istore (lv' := [(4, .int (iI ((ws + scy) - scx))), (0, .ref ar), (1, .ref xx), (2, .ref xy), (3, .int (iI ws))]) hx hb dAr_align_11 hl (by decide) rfl (fun ls hl => ?_)
  refine lv_aload_n hx hb dAr_align_13 rfl (lv_at hl 1 rfl) ?_
  refine va_get (D := (dC, dI)) (ci := 0) (v := .ref la) (C := "MacroReckoner$Arithmetic") (T := TAr) (N := 5) hx hb hts inAr hown hK hP 0 rfl rfl 1 (by decide) (hts _ wt1_143) (fun _ h9 => h9) rfl dAr_align_14 ?_
  refine lv_aload_n hx hb dAr_align_17 rfl (lv_at hl 2 rfl) ?_
  refine va_getN (D := (dC, dI)) (ci := 4) (v := .ref wx) (C := "MacroReckoner$Value") (T := TVa) (N := 6) hx hb hts inVa hown hK hP 5 rfl rfl 1 (by decide) (va_Nw.use rfl (hX.1 ("MacroReckoner$Arithmetic", 69, "MacroReckoner$Value", "whole", "LMacroReckoner$Whole;", "MacroReckoner") (List.mem_of_getElem? (i := 10) rfl))) (fun _ h9 => h9) rfl dAr_align_18 ?_
  refine cv_v (va_runV (C := "MacroReckoner$Whole") (As := [.ref wx]) (rest := []) ⟨hx, hb, hml, hown, hts⟩ (cWh_become l dC dI dA la lg LF lu wx gx Fx ux Nx (by exact hWx) H.size) (cwV 1 hts (gdV wt3_71 wt3_45 wt3_46 wt1_5 wt3_47) rfl rfl rfl ⟨rfl, by decide, by decide, by decide +kernel⟩ ⟨by decide, by decide⟩) (preV (q := ("MacroReckoner$Whole", TWh, 2)) hK hP hD hS hA XN_ok trivial [1, 2, 7, 8] rfl rfl 0 rfl rfl) rfl rfl hl.1 rfl (lv_room (Nat.le_of_ble_eq_true rfl)) dAr_align_21 ⟨Nat.zero_le _, Nat.zero_le _⟩) hP hD hS hA [1, 2, 7, 8] [0, 3, 4, 5, 6, 9, 10, 11, 12] rfl (fun v_ => wAr dA ar xR la ra sa qa (wWh dA la lg v_ ux (wWh dA ra rg RF ru (wVa dA xx wx crx tx ngx scx Cx lnx (wWh dA wx gx Fx ux (wVa dA xy wy cry ty ngy scy Cy lny (wWh dA wy gy Fy uy []))))))) (fun _ => rfl) (wAr dA ar xR la ra sa qa (wWh dA ra rg RF ru (wVa dA xx wx crx tx ngx scx Cx lnx (wVa dA xy wy cry ty ngy scy Cy lny (wWh dA wy gy Fy uy []))))) rfl (fun _ => rfl) [ar, la, lg, ra, rg, xx, crx, wx, gx, xy, cry, wy, gy] rfl (fun _ => rfl) (fun _ => rfl) (fun u_ H locs hq21 hP hD hS => ?_)
  obtain ⟨LA, rfl⟩ : ∃ z, z = u_ := ⟨_, rfl⟩
  have hP : va_P (dC, dI) vwCl (wAr dA ar xR la ra sa qa (wWh dA la lg LA ux (wWh dA ra rg RF ru (wVa dA xx wx crx tx ngx scx Cx lnx (wWh dA wx gx Fx ux (wVa dA xy wy cry ty ngy scy Cy lny (wWh dA wy gy Fy uy []))))))) H := hP
  have hD : va_D A (wAr dA ar xR la ra sa qa (wWh dA la lg LA ux (wWh dA ra rg RF ru (wVa dA xx wx crx tx ngx scx Cx lnx (wWh dA wx gx Fx ux (wVa dA xy wy cry ty ngy scy Cy lny (wWh dA wy gy Fy uy []))))))) := hD
  have hq21 : WR LA ux Nx := hq21
  refine lv_aload_n hx hb dAr_align_24 rfl (lv_at hl 1 rfl) ?_
  refine va_get (D := (dC, dI)) (ci := 0) (v := .ref la) (C := "MacroReckoner$Arithmetic") (T := TAr) (N := 5) hx hb hts inAr hown hK hP 0 rfl rfl 1 (by decide) (hts _ wt1_143) (fun _ h9 => h9) rfl dAr_align_25 ?_
  refine lv_iload hx hb dAr_align_28 (lv_at hl 0 rfl) ?_
  refine lv_iconst (v := iI 0) hx hb dAr_align_30 rfl ?_
  refine iv_mmax hx hb (hml.trans hl.1.symm) hown (hts _ wt3_70) (hts _ wt2_178) (hts _ wt1_16) (hts _ wt2_179) (by decide) (Nat.le_of_ble_eq_true rfl) (Nat.zero_le _) (Nat.zero_le _) dAr_align_31 ⟨by omega, by omega⟩ ⟨by decide, by decide⟩ ?_
  refine cv_v (va_runV (C := "MacroReckoner$Whole") (As := [.int (iI (max ((ws + scy) - scx) 0))]) (rest := []) ⟨hx, hb, hml, hown, hts⟩ (cWh_widen l dC dI dA dS la lg LA ux Nx (max ((ws + scy) - scx) 0) (by exact hq21) (by omega) (by exact hbx.2.1) H.size) (cwV 1 hts (gdV wt3_72 wt3_73 wt3_74 wt1_5 wt3_75) rfl rfl rfl ⟨rfl, by decide, by decide, by decide +kernel⟩ ⟨by decide, by decide⟩) (preV (q := ("MacroReckoner$Whole", TWh, 2)) hK hP hD hS hA (XC_ok dS) hX [1, 2] rfl rfl 0 rfl rfl) rfl rfl hl.1 rfl (lv_room (Nat.le_of_ble_eq_true rfl)) dAr_align_34 ⟨Nat.zero_le _, Nat.zero_le _⟩) hP hD hS hA [1, 2] [0, 3, 4, 5, 6, 7, 8, 9, 10, 11, 12] rfl (fun v_ => wAr dA ar xR la ra sa qa (wWh dA la lg v_.1 v_.2 (wWh dA ra rg RF ru (wVa dA xx wx crx tx ngx scx Cx lnx (wWh dA wx gx Fx ux (wVa dA xy wy cry ty ngy scy Cy lny (wWh dA wy gy Fy uy []))))))) (fun _ => rfl) (wAr dA ar xR la ra sa qa (wWh dA ra rg RF ru (wVa dA xx wx crx tx ngx scx Cx lnx (wWh dA wx gx Fx ux (wVa dA xy wy cry ty ngy scy Cy lny (wWh dA wy gy Fy uy [])))))) rfl (fun _ => rfl) [ar, la, lg, ra, rg, xx, crx, wx, gx, xy, cry, wy, gy] rfl (fun _ => rfl) (fun _ => rfl) (fun u_ H locs hq34 hP hD hS => ?_)
  obtain ⟨LB, lub⟩ := u_
  have hP : va_P (dC, dI) vwCl (wAr dA ar xR la ra sa qa (wWh dA la lg LB lub (wWh dA ra rg RF ru (wVa dA xx wx crx tx ngx scx Cx lnx (wWh dA wx gx Fx ux (wVa dA xy wy cry ty ngy scy Cy lny (wWh dA wy gy Fy uy []))))))) H := hP
  have hD : va_D A (wAr dA ar xR la ra sa qa (wWh dA la lg LB lub (wWh dA ra rg RF ru (wVa dA xx wx crx tx ngx scx Cx lnx (wWh dA wx gx Fx ux (wVa dA xy wy cry ty ngy scy Cy lny (wWh dA wy gy Fy uy []))))))) := hD
  have hq34 : WR LB lub (Nx * PW 10 (max ((ws + scy) - scx) 0)) := hq34
  refine lv_aload_n hx hb dAr_align_37 rfl (lv_at hl 1 rfl) ?_
  refine va_get (D := (dC, dI)) (ci := 0) (v := .ref ra) (C := "MacroReckoner$Arithmetic") (T := TAr) (N := 5) hx hb hts inAr hown hK hP 0 rfl rfl 2 (by decide) (hts _ wt1_144) (fun _ h9 => h9) rfl dAr_align_38 ?_
  refine lv_aload_n hx hb dAr_align_41 rfl (lv_at hl 3 rfl) ?_
  refine va_getN (D := (dC, dI)) (ci := 4) (v := .ref wy) (C := "MacroReckoner$Value") (T := TVa) (N := 6) hx hb hts inVa hown hK hP 9 rfl rfl 1 (by decide) (va_Nw.use rfl (hX.1 ("MacroReckoner$Arithmetic", 69, "MacroReckoner$Value", "whole", "LMacroReckoner$Whole;", "MacroReckoner") (List.mem_of_getElem? (i := 10) rfl))) (fun _ h9 => h9) rfl dAr_align_42 ?_
  refine cv_v (va_runV (C := "MacroReckoner$Whole") (As := [.ref wy]) (rest := []) ⟨hx, hb, hml, hown, hts⟩ (cWh_become l dC dI dA ra rg RF ru wy gy Fy uy Ny (by exact hWy) H.size) (cwV 1 hts (gdV wt3_71 wt3_45 wt3_46 wt1_5 wt3_47) rfl rfl rfl ⟨rfl, by decide, by decide, by decide +kernel⟩ ⟨by decide, by decide⟩) (preV (q := ("MacroReckoner$Whole", TWh, 2)) hK hP hD hS hA XN_ok trivial [3, 4, 11, 12] rfl rfl 0 rfl rfl) rfl rfl hl.1 rfl (lv_room (Nat.le_of_ble_eq_true rfl)) dAr_align_45 ⟨Nat.zero_le _, Nat.zero_le _⟩) hP hD hS hA [3, 4, 11, 12] [0, 1, 2, 5, 6, 7, 8, 9, 10] rfl (fun v_ => wAr dA ar xR la ra sa qa (wWh dA la lg LB lub (wWh dA ra rg v_ uy (wVa dA xx wx crx tx ngx scx Cx lnx (wWh dA wx gx Fx ux (wVa dA xy wy cry ty ngy scy Cy lny (wWh dA wy gy Fy uy []))))))) (fun _ => rfl) (wAr dA ar xR la ra sa qa (wWh dA la lg LB lub (wVa dA xx wx crx tx ngx scx Cx lnx (wWh dA wx gx Fx ux (wVa dA xy wy cry ty ngy scy Cy lny []))))) rfl (fun _ => rfl) [ar, la, lg, ra, rg, xx, crx, wx, gx, xy, cry, wy, gy] rfl (fun _ => rfl) (fun _ => rfl) (fun u_ H locs hq45 hP hD hS => ?_)
  obtain ⟨RA, rfl⟩ : ∃ z, z = u_ := ⟨_, rfl⟩
  have hP : va_P (dC, dI) vwCl (wAr dA ar xR la ra sa qa (wWh dA la lg LB lub (wWh dA ra rg RA uy (wVa dA xx wx crx tx ngx scx Cx lnx (wWh dA wx gx Fx ux (wVa dA xy wy cry ty ngy scy Cy lny (wWh dA wy gy Fy uy []))))))) H := hP
  have hD : va_D A (wAr dA ar xR la ra sa qa (wWh dA la lg LB lub (wWh dA ra rg RA uy (wVa dA xx wx crx tx ngx scx Cx lnx (wWh dA wx gx Fx ux (wVa dA xy wy cry ty ngy scy Cy lny (wWh dA wy gy Fy uy []))))))) := hD
  have hq45 : WR RA uy Ny := hq45
  refine lv_aload_n hx hb dAr_align_48 rfl (lv_at hl 1 rfl) ?_
  refine va_get (D := (dC, dI)) (ci := 0) (v := .ref ra) (C := "MacroReckoner$Arithmetic") (T := TAr) (N := 5) hx hb hts inAr hown hK hP 0 rfl rfl 2 (by decide) (hts _ wt1_144) (fun _ h9 => h9) rfl dAr_align_49 ?_
  refine lv_iload hx hb dAr_align_52 (lv_at hl 0 rfl) ?_
  refine iv_ineg hx hb dAr_align_54 ?_
  refine lv_iconst (v := iI 0) hx hb dAr_align_55 rfl ?_
  refine iv_mmax hx hb (hml.trans hl.1.symm) hown (hts _ wt3_70) (hts _ wt2_178) (hts _ wt1_16) (hts _ wt2_179) (by decide) (Nat.le_of_ble_eq_true rfl) (Nat.zero_le _) (Nat.zero_le _) dAr_align_56 ⟨by omega, by omega⟩ ⟨by decide, by decide⟩ ?_
  refine cv_v (va_runV (C := "MacroReckoner$Whole") (As := [.int (iI (max (-((ws + scy) - scx)) 0))]) (rest := []) ⟨hx, hb, hml, hown, hts⟩ (cWh_widen l dC dI dA dS ra rg RA uy Ny (max (-((ws + scy) - scx)) 0) (by exact hq45) (by omega) (by exact hby.2.1) H.size) (cwV 1 hts (gdV wt3_72 wt3_73 wt3_74 wt1_5 wt3_75) rfl rfl rfl ⟨rfl, by decide, by decide, by decide +kernel⟩ ⟨by decide, by decide⟩) (preV (q := ("MacroReckoner$Whole", TWh, 2)) hK hP hD hS hA (XC_ok dS) hX [3, 4] rfl rfl 0 rfl rfl) rfl rfl hl.1 rfl (lv_room (Nat.le_of_ble_eq_true rfl)) dAr_align_59 ⟨Nat.zero_le _, Nat.zero_le _⟩) hP hD hS hA [3, 4] [0, 1, 2, 5, 6, 7, 8, 9, 10, 11, 12] rfl (fun v_ => wAr dA ar xR la ra sa qa (wWh dA la lg LB lub (wWh dA ra rg v_.1 v_.2 (wVa dA xx wx crx tx ngx scx Cx lnx (wWh dA wx gx Fx ux (wVa dA xy wy cry ty ngy scy Cy lny (wWh dA wy gy Fy uy []))))))) (fun _ => rfl) (wAr dA ar xR la ra sa qa (wWh dA la lg LB lub (wVa dA xx wx crx tx ngx scx Cx lnx (wWh dA wx gx Fx ux (wVa dA xy wy cry ty ngy scy Cy lny (wWh dA wy gy Fy uy [])))))) rfl (fun _ => rfl) [ar, la, lg, ra, rg, xx, crx, wx, gx, xy, cry, wy, gy] rfl (fun _ => rfl) (fun _ => rfl) (fun u_ H locs hq59 hP hD hS => ?_)
  obtain ⟨RB, rub⟩ := u_
  have hP : va_P (dC, dI) vwCl (wAr dA ar xR la ra sa qa (wWh dA la lg LB lub (wWh dA ra rg RB rub (wVa dA xx wx crx tx ngx scx Cx lnx (wWh dA wx gx Fx ux (wVa dA xy wy cry ty ngy scy Cy lny (wWh dA wy gy Fy uy []))))))) H := hP
  have hD : va_D A (wAr dA ar xR la ra sa qa (wWh dA la lg LB lub (wWh dA ra rg RB rub (wVa dA xx wx crx tx ngx scx Cx lnx (wWh dA wx gx Fx ux (wVa dA xy wy cry ty ngy scy Cy lny (wWh dA wy gy Fy uy []))))))) := hD
  have hq59 : WR RB rub (Ny * PW 10 (max (-((ws + scy) - scx)) 0)) := hq59
  exact rt_v hx hb hr hlocks hK hS dAr_align_62 (LB, lub, RB, rub) hP hD (show WR LB lub (Nx * PW 10 (max (ws + scy - scx) 0)) ∧ WR RB rub (Ny * PW 10 (max (-(ws + scy - scx)) 0)) from by exact ⟨hq34, hq59⟩)

theorem dAr_order_0 : decode prog_2_method_2_code 0 = .ok (.aload_n 1, 1) := by decide +kernel
theorem dAr_order_1 : decode prog_2_method_2_code 1 = .ok (.getfield 31, 3) := by decide +kernel
theorem dAr_order_4 : decode prog_2_method_2_code 4 = .ok (.aload_n 2, 1) := by decide +kernel
theorem dAr_order_5 : decode prog_2_method_2_code 5 = .ok (.getfield 31, 3) := by decide +kernel
theorem dAr_order_8 : decode prog_2_method_2_code 8 = .ok (.if_icmp .eq 16, 3) := by decide +kernel
theorem dAr_order_11 : decode prog_2_method_2_code 11 = .ok (.aload_n 1, 1) := by decide +kernel
theorem dAr_order_12 : decode prog_2_method_2_code 12 = .ok (.getfield 31, 3) := by decide +kernel
theorem dAr_order_15 : decode prog_2_method_2_code 15 = .ok (.ifCond .eq 7, 3) := by decide +kernel
theorem dAr_order_18 : decode prog_2_method_2_code 18 = .ok (.iconst (-1), 1) := by decide +kernel
theorem dAr_order_19 : decode prog_2_method_2_code 19 = .ok (.goto 4, 3) := by decide +kernel
theorem dAr_order_22 : decode prog_2_method_2_code 22 = .ok (.iconst 1, 1) := by decide +kernel
theorem dAr_order_23 : decode prog_2_method_2_code 23 = .ok (.ireturn, 1) := by decide +kernel
theorem dAr_order_24 : decode prog_2_method_2_code 24 = .ok (.aload_n 0, 1) := by decide +kernel
theorem dAr_order_25 : decode prog_2_method_2_code 25 = .ok (.aload_n 1, 1) := by decide +kernel
theorem dAr_order_26 : decode prog_2_method_2_code 26 = .ok (.aload_n 2, 1) := by decide +kernel
theorem dAr_order_27 : decode prog_2_method_2_code 27 = .ok (.invokevirtual 37, 3) := by decide +kernel
theorem dAr_order_30 : decode prog_2_method_2_code 30 = .ok (.pop, 1) := by decide +kernel
theorem dAr_order_31 : decode prog_2_method_2_code 31 = .ok (.aload_n 1, 1) := by decide +kernel
theorem dAr_order_32 : decode prog_2_method_2_code 32 = .ok (.getfield 31, 3) := by decide +kernel
theorem dAr_order_35 : decode prog_2_method_2_code 35 = .ok (.ifCond .eq 17, 3) := by decide +kernel
theorem dAr_order_38 : decode prog_2_method_2_code 38 = .ok (.aload_n 0, 1) := by decide +kernel
theorem dAr_order_39 : decode prog_2_method_2_code 39 = .ok (.getfield 18, 3) := by decide +kernel
theorem dAr_order_42 : decode prog_2_method_2_code 42 = .ok (.aload_n 0, 1) := by decide +kernel
theorem dAr_order_43 : decode prog_2_method_2_code 43 = .ok (.getfield 12, 3) := by decide +kernel
theorem dAr_order_46 : decode prog_2_method_2_code 46 = .ok (.invokevirtual 41, 3) := by decide +kernel
theorem dAr_order_49 : decode prog_2_method_2_code 49 = .ok (.goto 14, 3) := by decide +kernel
theorem dAr_order_52 : decode prog_2_method_2_code 52 = .ok (.aload_n 0, 1) := by decide +kernel
theorem dAr_order_53 : decode prog_2_method_2_code 53 = .ok (.getfield 12, 3) := by decide +kernel
theorem dAr_order_56 : decode prog_2_method_2_code 56 = .ok (.aload_n 0, 1) := by decide +kernel
theorem dAr_order_57 : decode prog_2_method_2_code 57 = .ok (.getfield 18, 3) := by decide +kernel
theorem dAr_order_60 : decode prog_2_method_2_code 60 = .ok (.invokevirtual 41, 3) := by decide +kernel
theorem dAr_order_63 : decode prog_2_method_2_code 63 = .ok (.ireturn, 1) := by decide +kernel
abbrev qAr_order (dC : Nat → ClassId) (dI : Nat → Nat → Nat) (dA : Nat → ClassId) (dS : Nat → Nat) (ar : Nat) (la : Nat) (ra : Nat) (sa : Nat) (qa : Nat) (xR : Nat) (lg : Nat) (LF : Int → Int) (lu : Int) (rg : Nat) (RF : Int → Int) (ru : Int) (xx : Nat) (wx : Nat) (crx : Nat) (tx : Int) (ngx : Int) (scx : Int) (Cx : Int → Int) (lnx : Int) (gx : Nat) (Fx : Int → Int) (ux : Int) (Nx : Int) (xy : Nat) (wy : Nat) (cry : Nat) (ty : Int) (ngy : Int) (scy : Int) (Cy : Int → Int) (lny : Int) (gy : Nat) (Fy : Int → Int) (uy : Int) (Ny : Int) (A : Nat → Prop) : Array Value → State → Outcome → State → Prop := QI (dC, dI) vwCl (tyA dA) (fun (r : Int) (v_ : (Int → Int) × Int × (Int → Int) × Int) => (sg ngx (Nx * PW 10 (max scx scy - scx)) < sg ngy (Ny * PW 10 (max scx scy - scy)) ∧ r = -1) ∨ (sg ngx (Nx * PW 10 (max scx scy - scx)) = sg ngy (Ny * PW 10 (max scx scy - scy)) ∧ r = 0) ∨ (sg ngy (Ny * PW 10 (max scx scy - scy)) < sg ngx (Nx * PW 10 (max scx scy - scx)) ∧ r = 1)) (fun (v_ : (Int → Int) × Int × (Int → Int) × Int) => wAr dA ar xR la ra sa qa (wWh dA la lg v_.1 v_.2.1 (wWh dA ra rg v_.2.2.1 v_.2.2.2 (wVa dA xx wx crx tx ngx scx Cx lnx (wWh dA wx gx Fx ux (wVa dA xy wy cry ty ngy scy Cy lny (wWh dA wy gy Fy uy []))))))) A
abbrev rmAr_order : Room := { frames := 3, cells := 0, slots := 0, locals := 106 }
set_option maxRecDepth 100000 in
set_option maxHeartbeats 1000000 in
theorem cAr_order (l : Launch) (dC : Nat → ClassId) (dI : Nat → Nat → Nat) (dA : Nat → ClassId) (dS : Nat → Nat) (ar : Nat) (la : Nat) (ra : Nat) (sa : Nat) (qa : Nat) (xR : Nat) (lg : Nat) (LF : Int → Int) (lu : Int) (rg : Nat) (RF : Int → Int) (ru : Int) (xx : Nat) (wx : Nat) (crx : Nat) (tx : Int) (ngx : Int) (scx : Int) (Cx : Int → Int) (lnx : Int) (gx : Nat) (Fx : Int → Int) (ux : Int) (Nx : Int) (xy : Nat) (wy : Nat) (cry : Nat) (ty : Int) (ngy : Int) (scy : Int) (Cy : Int → Int) (lny : Int) (gy : Nat) (Fy : Int → Int) (uy : Int) (Ny : Int) (hVx : VV tx ngx scx lnx Cx Nx) (hWx : WR Fx ux Nx) (hVy : VV ty ngy scy lny Cy Ny) (hWy : WR Fy uy Ny) (sz : Nat) : Met l yAr_order wsAr_order rmAr_order (PC (dC, dI) vwCl (tyA dA) (XC dS) [.ref ar, .ref xx, .ref xy] (wAr dA ar xR la ra sa qa (wWh dA la lg LF lu (wWh dA ra rg RF ru (wVa dA xx wx crx tx ngx scx Cx lnx (wWh dA wx gx Fx ux (wVa dA xy wy cry ty ngy scy Cy lny (wWh dA wy gy Fy uy []))))))) sz) (qAr_order dC dI dA dS ar la ra sa qa xR lg LF lu rg RF ru xx wx crx tx ngx scx Cx lnx gx Fx ux Nx xy wy cry ty ngy scy Cy lny gy Fy uy Ny (va_A (wAr dA ar xR la ra sa qa (wWh dA la lg LF lu (wWh dA ra rg RF ru (wVa dA xx wx crx tx ngx scx Cx lnx (wWh dA wx gx Fx ux (wVa dA xy wy cry ty ngy scy Cy lny (wWh dA wy gy Fy uy []))))))) sz)) 0 0 (va_A (wAr dA ar xR la ra sa qa (wWh dA la lg LF lu (wWh dA ra rg RF ru (wVa dA xx wx crx tx ngx scx Cx lnx (wWh dA wx gx Fx ux (wVa dA xy wy cry ty ngy scy Cy lny (wWh dA wy gy Fy uy []))))))) sz) := by
  refine met_of (cc := prog_2_method_2_code) (maxL := 3) (ret := (some .int)) (Qc := qAr_order dC dI dA dS ar la ra sa qa xR lg LF lu rg RF ru xx wx crx tx ngx scx Cx lnx gx Fx ux Nx xy wy cry ty ngy scy Cy lny gy Fy uy Ny) (XC_ok dS) (by decide) rfl (Nat.le_of_ble_eq_true rfl) ?_
  intro p e s m below meth c ls A hx hb hr hml hown hts hlocks hnm hK hP hD hA hX hS hl
  have hl : lv_has ls 3 [(0, .ref ar), (1, .ref xx), (2, .ref xy)] := hl
  have hown : s.vm.findClass "MacroReckoner$Arithmetic" = some m.cls := hown
  obtain ⟨H, hH⟩ : ∃ H : Heap, H = s.heap := ⟨_, rfl⟩
  obtain ⟨locs, hlo⟩ : ∃ L : List Loc, L = [] := ⟨_, rfl⟩
  have hP : va_P (dC, dI) vwCl (wAr dA ar xR la ra sa qa (wWh dA la lg LF lu (wWh dA ra rg RF ru (wVa dA xx wx crx tx ngx scx Cx lnx (wWh dA wx gx Fx ux (wVa dA xy wy cry ty ngy scy Cy lny (wWh dA wy gy Fy uy []))))))) H := hH ▸ hP
  have hS : va_S A s.heap H locs := by rw [hH, hlo]; exact hS
  suffices hgo : W p l e rmAr_order s m [.ref ar, .ref xx, .ref xy].toArray below meth c H locs 0 0 (MQ below (qAr_order dC dI dA dS ar la ra sa qa xR lg LF lu rg RF ru xx wx crx tx ngx scx Cx lnx gx Fx ux Nx xy wy cry ty ngy scy Cy lny gy Fy uy Ny A) [.ref ar, .ref xx, .ref xy].toArray s 0 0 A) (F0 m 0 ls []) by rw [hH, hlo] at hgo; exact hgo
  clear hH hlo
  have hVx0 := hVx
  have hVy0 := hVy
  obtain ⟨-, hngx, hscx, -, -, -, -, hx3, hx4⟩ := hVx
  have hNx0 := (WR_bd hWx).1
  obtain ⟨-, hngy, hscy, -, -, -, -, hy3, hy4⟩ := hVy
  have hNy0 := (WR_bd hWy).1
  have hpx := Int.mul_nonneg hNx0 (Int.le_of_lt (PW_pos (b := 10) (by decide) (max scx scy - scx)))
  have hpy := Int.mul_nonneg hNy0 (Int.le_of_lt (PW_pos (b := 10) (by decide) (max scx scy - scy)))
  have hzx : ngx = 1 → Nx * PW 10 (max scx scy - scx) ≠ 0 := fun q => Int.ne_of_gt (Int.mul_pos (by have := hx3 q; omega) (PW_pos (by decide) _))
  have hzy : ngy = 1 → Ny * PW 10 (max scx scy - scy) ≠ 0 := fun q => Int.ne_of_gt (Int.mul_pos (by have := hy3 q; omega) (PW_pos (by decide) _))
  refine lv_aload_n hx hb dAr_order_0 rfl (lv_at hl 1 rfl) ?_
  refine va_getN (D := (dC, dI)) (ci := 4) (v := .int (iI ngx)) (C := "MacroReckoner$Value") (T := TVa) (N := 6) hx hb hts inVa hown hK hP 5 rfl rfl 2 (by decide) (va_Nw.use rfl (hX.1 ("MacroReckoner$Arithmetic", 31, "MacroReckoner$Value", "negative", "Z", "MacroReckoner") (List.mem_of_getElem? (i := 13) rfl))) (fun _ h9 => h9) rfl dAr_order_1 ?_
  refine lv_aload_n hx hb dAr_order_4 rfl (lv_at hl 2 rfl) ?_
  refine va_getN (D := (dC, dI)) (ci := 4) (v := .int (iI ngy)) (C := "MacroReckoner$Value") (T := TVa) (N := 6) hx hb hts inVa hown hK hP 9 rfl rfl 2 (by decide) (va_Nw.use rfl (hX.1 ("MacroReckoner$Arithmetic", 31, "MacroReckoner$Value", "negative", "Z", "MacroReckoner") (List.mem_of_getElem? (i := 13) rfl))) (fun _ h9 => h9) rfl dAr_order_5 ?_
  refine iv_icmp_eq (tgt := 24) hx hb dAr_order_8 (by decide) ⟨by omega, by omega⟩ ⟨by omega, by omega⟩ (fun hc8 => ?_) (fun hc8 => ?_)
  · refine lv_aload_n hx hb dAr_order_24 rfl (lv_at hl 0 rfl) ?_
    refine lv_aload_n hx hb dAr_order_25 rfl (lv_at hl 1 rfl) ?_
    refine lv_aload_n hx hb dAr_order_26 rfl (lv_at hl 2 rfl) ?_
    refine cv_i (va_runV (C := "MacroReckoner$Arithmetic") (As := [.ref xx, .ref xy]) (rest := []) ⟨hx, hb, hml, hown, hts⟩ (cAr_level l dC dI dA dS ar la ra sa qa xR lg LF lu rg RF ru xx wx crx tx ngx scx Cx lnx gx Fx ux Nx xy wy cry ty ngy scy Cy lny gy Fy uy Ny (by exact hVx0) (by exact hWx) (by exact hVy0) (by exact hWy) H.size) (cwV 2 hts (gdV wt3_66 wt3_68 ws1_15 wt1_6 wt3_69) rfl rfl rfl ⟨rfl, by decide, by decide, by decide +kernel⟩ ⟨by decide, by decide⟩) (preV (q := ("MacroReckoner$Arithmetic", TAr, 5)) hK hP hD hS hA (XC_ok dS) hX [0, 1, 2, 3, 4, 5, 6, 7, 8, 9, 10, 11, 12] rfl rfl 0 rfl rfl) rfl rfl hl.1 rfl (lv_room (Nat.le_of_ble_eq_true rfl)) dAr_order_27 ⟨Nat.zero_le _, Nat.zero_le _⟩) hP hD hS hA [0, 1, 2, 3, 4, 5, 6, 7, 8, 9, 10, 11, 12] [] rfl (fun v_ => wAr dA ar xR la ra sa qa (wWh dA la lg v_.1 v_.2.1 (wWh dA ra rg v_.2.2.1 v_.2.2.2 (wVa dA xx wx crx tx ngx scx Cx lnx (wWh dA wx gx Fx ux (wVa dA xy wy cry ty ngy scy Cy lny (wWh dA wy gy Fy uy []))))))) (fun _ => rfl) ([] : va_W) rfl (fun _ => rfl) [ar, la, lg, ra, rg, xx, crx, wx, gx, xy, cry, wy, gy] rfl (fun _ => rfl) (fun _ => rfl) (fun r27 u_ H locs hq27 hP hD hS => ?_)
    obtain ⟨LA, lub, RA, rub⟩ := u_
    have hP : va_P (dC, dI) vwCl (wAr dA ar xR la ra sa qa (wWh dA la lg LA lub (wWh dA ra rg RA rub (wVa dA xx wx crx tx ngx scx Cx lnx (wWh dA wx gx Fx ux (wVa dA xy wy cry ty ngy scy Cy lny (wWh dA wy gy Fy uy []))))))) H := hP
    have hD : va_D A (wAr dA ar xR la ra sa qa (wWh dA la lg LA lub (wWh dA ra rg RA rub (wVa dA xx wx crx tx ngx scx Cx lnx (wWh dA wx gx Fx ux (wVa dA xy wy cry ty ngy scy Cy lny (wWh dA wy gy Fy uy []))))))) := hD
    have hq27 : r27 = max scx scy ∧ WR LA lub (Nx * PW 10 (max scx scy - scx)) ∧ WR RA rub (Ny * PW 10 (max scx scy - scy)) := hq27
    refine lv_pop hx hb dAr_order_30 rfl ?_
    refine lv_aload_n hx hb dAr_order_31 rfl (lv_at hl 1 rfl) ?_
    refine va_getN (D := (dC, dI)) (ci := 4) (v := .int (iI ngx)) (C := "MacroReckoner$Value") (T := TVa) (N := 6) hx hb hts inVa hown hK hP 5 rfl rfl 2 (by decide) (va_Nw.use rfl (hX.1 ("MacroReckoner$Arithmetic", 31, "MacroReckoner$Value", "negative", "Z", "MacroReckoner") (List.mem_of_getElem? (i := 13) rfl))) (fun _ h9 => h9) rfl dAr_order_32 ?_
    refine iv_if_eq (tgt := 52) hx hb dAr_order_35 (by decide) ⟨by omega, by omega⟩ (fun hc35 => ?_) (fun hc35 => ?_)
    · refine lv_aload_n hx hb dAr_order_52 rfl (lv_at hl 0 rfl) ?_
      refine va_get (D := (dC, dI)) (ci := 0) (v := .ref la) (C := "MacroReckoner$Arithmetic") (T := TAr) (N := 5) hx hb hts inAr hown hK hP 0 rfl rfl 1 (by decide) (hts _ wt1_143) (fun _ h9 => h9) rfl dAr_order_53 ?_
      refine lv_aload_n hx hb dAr_order_56 rfl (lv_at hl 0 rfl) ?_
      refine va_get (D := (dC, dI)) (ci := 0) (v := .ref ra) (C := "MacroReckoner$Arithmetic") (T := TAr) (N := 5) hx hb hts inAr hown hK hP 0 rfl rfl 2 (by decide) (hts _ wt1_144) (fun _ h9 => h9) rfl dAr_order_57 ?_
      refine cv_i (va_runV (C := "MacroReckoner$Whole") (As := [.ref ra]) (rest := []) ⟨hx, hb, hml, hown, hts⟩ (cWh_against l dC dI dA la lg LA lub (Nx * PW 10 (max scx scy - scx)) ra rg RA rub (Ny * PW 10 (max scx scy - scy)) (by exact hq27.2.1) (by exact hq27.2.2) H.size) (cwV 1 hts (gdV wt3_92 wt3_93 wt3_94 wt1_5 wt3_95) rfl rfl rfl ⟨rfl, by decide, by decide, by decide +kernel⟩ ⟨by decide, by decide⟩) (preV (q := ("MacroReckoner$Whole", TWh, 2)) hK hP hD hS hA XN_ok trivial [1, 2, 3, 4] rfl rfl 0 rfl rfl) rfl rfl hl.1 rfl (lv_room (Nat.le_of_ble_eq_true rfl)) dAr_order_60 ⟨Nat.zero_le _, Nat.zero_le _⟩) hP hD hS hA [1, 2, 3, 4] [0, 5, 6, 7, 8, 9, 10, 11, 12] rfl (fun v_ => wAr dA ar xR la ra sa qa (wWh dA la lg LA lub (wWh dA ra rg RA rub (wVa dA xx wx crx tx ngx scx Cx lnx (wWh dA wx gx Fx ux (wVa dA xy wy cry ty ngy scy Cy lny (wWh dA wy gy Fy uy []))))))) (fun _ => rfl) (wAr dA ar xR la ra sa qa (wVa dA xx wx crx tx ngx scx Cx lnx (wWh dA wx gx Fx ux (wVa dA xy wy cry ty ngy scy Cy lny (wWh dA wy gy Fy uy []))))) rfl (fun _ => rfl) [ar, la, lg, ra, rg, xx, crx, wx, gx, xy, cry, wy, gy] rfl (fun _ => rfl) (fun _ => rfl) (fun r60 u_ H locs hq60 hP hD hS => ?_)
      have hP : va_P (dC, dI) vwCl (wAr dA ar xR la ra sa qa (wWh dA la lg LA lub (wWh dA ra rg RA rub (wVa dA xx wx crx tx ngx scx Cx lnx (wWh dA wx gx Fx ux (wVa dA xy wy cry ty ngy scy Cy lny (wWh dA wy gy Fy uy []))))))) H := hP
      have hD : va_D A (wAr dA ar xR la ra sa qa (wWh dA la lg LA lub (wWh dA ra rg RA rub (wVa dA xx wx crx tx ngx scx Cx lnx (wWh dA wx gx Fx ux (wVa dA xy wy cry ty ngy scy Cy lny (wWh dA wy gy Fy uy []))))))) := hD
      have hq60 : ((Nx * PW 10 (max scx scy - scx)) < (Ny * PW 10 (max scx scy - scy)) ∧ r60 = -1) ∨ ((Nx * PW 10 (max scx scy - scx)) = (Ny * PW 10 (max scx scy - scy)) ∧ r60 = 0) ∨ ((Ny * PW 10 (max scx scy - scy)) < (Nx * PW 10 (max scx scy - scx)) ∧ r60 = 1) := hq60
      exact rt_i hx hb hr hlocks hK hS dAr_order_63 (LA, lub, RA, rub) hP hD (show (sg ngx (Nx * PW 10 (max scx scy - scx)) < sg ngy (Ny * PW 10 (max scx scy - scy)) ∧ r60 = -1) ∨ (sg ngx (Nx * PW 10 (max scx scy - scx)) = sg ngy (Ny * PW 10 (max scx scy - scy)) ∧ r60 = 0) ∨ (sg ngy (Ny * PW 10 (max scx scy - scy)) < sg ngx (Nx * PW 10 (max scx scy - scx)) ∧ r60 = 1) from by unfold sg; split <;> split <;> omega)
    · refine lv_aload_n hx hb dAr_order_38 rfl (lv_at hl 0 rfl) ?_
      refine va_get (D := (dC, dI)) (ci := 0) (v := .ref ra) (C := "MacroReckoner$Arithmetic") (T := TAr) (N := 5) hx hb hts inAr hown hK hP 0 rfl rfl 2 (by decide) (hts _ wt1_144) (fun _ h9 => h9) rfl dAr_order_39 ?_
      refine lv_aload_n hx hb dAr_order_42 rfl (lv_at hl 0 rfl) ?_
      refine va_get (D := (dC, dI)) (ci := 0) (v := .ref la) (C := "MacroReckoner$Arithmetic") (T := TAr) (N := 5) hx hb hts inAr hown hK hP 0 rfl rfl 1 (by decide) (hts _ wt1_143) (fun _ h9 => h9) rfl dAr_order_43 ?_
      refine cv_i (va_runV (C := "MacroReckoner$Whole") (As := [.ref la]) (rest := []) ⟨hx, hb, hml, hown, hts⟩ (cWh_against l dC dI dA ra rg RA rub (Ny * PW 10 (max scx scy - scy)) la lg LA lub (Nx * PW 10 (max scx scy - scx)) (by exact hq27.2.2) (by exact hq27.2.1) H.size) (cwV 1 hts (gdV wt3_92 wt3_93 wt3_94 wt1_5 wt3_95) rfl rfl rfl ⟨rfl, by decide, by decide, by decide +kernel⟩ ⟨by decide, by decide⟩) (preV (q := ("MacroReckoner$Whole", TWh, 2)) hK hP hD hS hA XN_ok trivial [3, 4, 1, 2] rfl rfl 0 rfl rfl) rfl rfl hl.1 rfl (lv_room (Nat.le_of_ble_eq_true rfl)) dAr_order_46 ⟨Nat.zero_le _, Nat.zero_le _⟩) hP hD hS hA [3, 4, 1, 2] [0, 5, 6, 7, 8, 9, 10, 11, 12] rfl (fun v_ => wAr dA ar xR la ra sa qa (wWh dA la lg LA lub (wWh dA ra rg RA rub (wVa dA xx wx crx tx ngx scx Cx lnx (wWh dA wx gx Fx ux (wVa dA xy wy cry ty ngy scy Cy lny (wWh dA wy gy Fy uy []))))))) (fun _ => rfl) (wAr dA ar xR la ra sa qa (wVa dA xx wx crx tx ngx scx Cx lnx (wWh dA wx gx Fx ux (wVa dA xy wy cry ty ngy scy Cy lny (wWh dA wy gy Fy uy []))))) rfl (fun _ => rfl) [ar, la, lg, ra, rg, xx, crx, wx, gx, xy, cry, wy, gy] rfl (fun _ => rfl) (fun _ => rfl) (fun r46 u_ H locs hq46 hP hD hS => ?_)
      have hP : va_P (dC, dI) vwCl (wAr dA ar xR la ra sa qa (wWh dA la lg LA lub (wWh dA ra rg RA rub (wVa dA xx wx crx tx ngx scx Cx lnx (wWh dA wx gx Fx ux (wVa dA xy wy cry ty ngy scy Cy lny (wWh dA wy gy Fy uy []))))))) H := hP
      have hD : va_D A (wAr dA ar xR la ra sa qa (wWh dA la lg LA lub (wWh dA ra rg RA rub (wVa dA xx wx crx tx ngx scx Cx lnx (wWh dA wx gx Fx ux (wVa dA xy wy cry ty ngy scy Cy lny (wWh dA wy gy Fy uy []))))))) := hD
      have hq46 : ((Ny * PW 10 (max scx scy - scy)) < (Nx * PW 10 (max scx scy - scx)) ∧ r46 = -1) ∨ ((Ny * PW 10 (max scx scy - scy)) = (Nx * PW 10 (max scx scy - scx)) ∧ r46 = 0) ∨ ((Nx * PW 10 (max scx scy - scx)) < (Ny * PW 10 (max scx scy - scy)) ∧ r46 = 1) := hq46
      refine lv_goto (tgt := 63) hx hb dAr_order_49 (by decide) ?_
      exact rt_i hx hb hr hlocks hK hS dAr_order_63 (LA, lub, RA, rub) hP hD (show (sg ngx (Nx * PW 10 (max scx scy - scx)) < sg ngy (Ny * PW 10 (max scx scy - scy)) ∧ r46 = -1) ∨ (sg ngx (Nx * PW 10 (max scx scy - scx)) = sg ngy (Ny * PW 10 (max scx scy - scy)) ∧ r46 = 0) ∨ (sg ngy (Ny * PW 10 (max scx scy - scy)) < sg ngx (Nx * PW 10 (max scx scy - scx)) ∧ r46 = 1) from by unfold sg; split <;> split <;> omega)
  · refine lv_aload_n hx hb dAr_order_11 rfl (lv_at hl 1 rfl) ?_
    refine va_getN (D := (dC, dI)) (ci := 4) (v := .int (iI ngx)) (C := "MacroReckoner$Value") (T := TVa) (N := 6) hx hb hts inVa hown hK hP 5 rfl rfl 2 (by decide) (va_Nw.use rfl (hX.1 ("MacroReckoner$Arithmetic", 31, "MacroReckoner$Value", "negative", "Z", "MacroReckoner") (List.mem_of_getElem? (i := 13) rfl))) (fun _ h9 => h9) rfl dAr_order_12 ?_
    refine iv_if_eq (tgt := 22) hx hb dAr_order_15 (by decide) ⟨by omega, by omega⟩ (fun hc15 => ?_) (fun hc15 => ?_)
    · refine lv_iconst (v := iI 1) hx hb dAr_order_22 rfl ?_
      exact rt_i hx hb hr hlocks hK hS dAr_order_23 (LF, lu, RF, ru) hP hD (show (sg ngx (Nx * PW 10 (max scx scy - scx)) < sg ngy (Ny * PW 10 (max scx scy - scy)) ∧ 1 = -1) ∨ (sg ngx (Nx * PW 10 (max scx scy - scx)) = sg ngy (Ny * PW 10 (max scx scy - scy)) ∧ 1 = 0) ∨ (sg ngy (Ny * PW 10 (max scx scy - scy)) < sg ngx (Nx * PW 10 (max scx scy - scx)) ∧ 1 = 1) from by unfold sg; split <;> split <;> omega)
    · refine lv_iconst (v := iI (-1)) hx hb dAr_order_18 rfl ?_
      refine lv_goto (tgt := 23) hx hb dAr_order_19 (by decide) ?_
      exact rt_i hx hb hr hlocks hK hS dAr_order_23 (LF, lu, RF, ru) hP hD (show (sg ngx (Nx * PW 10 (max scx scy - scx)) < sg ngy (Ny * PW 10 (max scx scy - scy)) ∧ (-1) = -1) ∨ (sg ngx (Nx * PW 10 (max scx scy - scx)) = sg ngy (Ny * PW 10 (max scx scy - scy)) ∧ (-1) = 0) ∨ (sg ngy (Ny * PW 10 (max scx scy - scy)) < sg ngx (Nx * PW 10 (max scx scy - scx)) ∧ (-1) = 1) from by unfold sg; split <;> split <;> omega)

theorem dAr_sum_0 : decode prog_2_method_3_code 0 = .ok (.aload_n 0, 1) := by decide +kernel
theorem dAr_sum_1 : decode prog_2_method_3_code 1 = .ok (.aload_n 1, 1) := by decide +kernel
theorem dAr_sum_2 : decode prog_2_method_3_code 2 = .ok (.aload_n 2, 1) := by decide +kernel
theorem dAr_sum_3 : decode prog_2_method_3_code 3 = .ok (.invokevirtual 37, 3) := by decide +kernel
theorem dAr_sum_6 : decode prog_2_method_3_code 6 = .ok (.istore 4, 2) := by decide +kernel
theorem dAr_sum_8 : decode prog_2_method_3_code 8 = .ok (.aload_n 1, 1) := by decide +kernel
theorem dAr_sum_9 : decode prog_2_method_3_code 9 = .ok (.getfield 31, 3) := by decide +kernel
theorem dAr_sum_12 : decode prog_2_method_3_code 12 = .ok (.iload_n 3, 1) := by decide +kernel
theorem dAr_sum_13 : decode prog_2_method_3_code 13 = .ok (.if_icmp .ne 29, 3) := by decide +kernel
theorem dAr_sum_16 : decode prog_2_method_3_code 16 = .ok (.aload_n 0, 1) := by decide +kernel
theorem dAr_sum_17 : decode prog_2_method_3_code 17 = .ok (.getfield 12, 3) := by decide +kernel
theorem dAr_sum_20 : decode prog_2_method_3_code 20 = .ok (.aload_n 0, 1) := by decide +kernel
theorem dAr_sum_21 : decode prog_2_method_3_code 21 = .ok (.getfield 18, 3) := by decide +kernel
theorem dAr_sum_24 : decode prog_2_method_3_code 24 = .ok (.invokevirtual 45, 3) := by decide +kernel
theorem dAr_sum_27 : decode prog_2_method_3_code 27 = .ok (.aload_n 0, 1) := by decide +kernel
theorem dAr_sum_28 : decode prog_2_method_3_code 28 = .ok (.aload_n 0, 1) := by decide +kernel
theorem dAr_sum_29 : decode prog_2_method_3_code 29 = .ok (.getfield 12, 3) := by decide +kernel
theorem dAr_sum_32 : decode prog_2_method_3_code 32 = .ok (.aload_n 1, 1) := by decide +kernel
theorem dAr_sum_33 : decode prog_2_method_3_code 33 = .ok (.getfield 31, 3) := by decide +kernel
theorem dAr_sum_36 : decode prog_2_method_3_code 36 = .ok (.iload 4, 2) := by decide +kernel
theorem dAr_sum_38 : decode prog_2_method_3_code 38 = .ok (.invokevirtual 49, 3) := by decide +kernel
theorem dAr_sum_41 : decode prog_2_method_3_code 41 = .ok (.ireturn, 1) := by decide +kernel
theorem dAr_sum_42 : decode prog_2_method_3_code 42 = .ok (.aload_n 0, 1) := by decide +kernel
theorem dAr_sum_43 : decode prog_2_method_3_code 43 = .ok (.getfield 12, 3) := by decide +kernel
theorem dAr_sum_46 : decode prog_2_method_3_code 46 = .ok (.aload_n 0, 1) := by decide +kernel
theorem dAr_sum_47 : decode prog_2_method_3_code 47 = .ok (.getfield 18, 3) := by decide +kernel
theorem dAr_sum_50 : decode prog_2_method_3_code 50 = .ok (.invokevirtual 41, 3) := by decide +kernel
theorem dAr_sum_53 : decode prog_2_method_3_code 53 = .ok (.ifCond .ge 26, 3) := by decide +kernel
theorem dAr_sum_56 : decode prog_2_method_3_code 56 = .ok (.aload_n 0, 1) := by decide +kernel
theorem dAr_sum_57 : decode prog_2_method_3_code 57 = .ok (.getfield 18, 3) := by decide +kernel
theorem dAr_sum_60 : decode prog_2_method_3_code 60 = .ok (.aload_n 0, 1) := by decide +kernel
theorem dAr_sum_61 : decode prog_2_method_3_code 61 = .ok (.getfield 12, 3) := by decide +kernel
theorem dAr_sum_64 : decode prog_2_method_3_code 64 = .ok (.invokevirtual 53, 3) := by decide +kernel
theorem dAr_sum_67 : decode prog_2_method_3_code 67 = .ok (.aload_n 0, 1) := by decide +kernel
theorem dAr_sum_68 : decode prog_2_method_3_code 68 = .ok (.aload_n 0, 1) := by decide +kernel
theorem dAr_sum_69 : decode prog_2_method_3_code 69 = .ok (.getfield 18, 3) := by decide +kernel
theorem dAr_sum_72 : decode prog_2_method_3_code 72 = .ok (.iload_n 3, 1) := by decide +kernel
theorem dAr_sum_73 : decode prog_2_method_3_code 73 = .ok (.iload 4, 2) := by decide +kernel
theorem dAr_sum_75 : decode prog_2_method_3_code 75 = .ok (.invokevirtual 49, 3) := by decide +kernel
theorem dAr_sum_78 : decode prog_2_method_3_code 78 = .ok (.ireturn, 1) := by decide +kernel
theorem dAr_sum_79 : decode prog_2_method_3_code 79 = .ok (.aload_n 0, 1) := by decide +kernel
theorem dAr_sum_80 : decode prog_2_method_3_code 80 = .ok (.getfield 12, 3) := by decide +kernel
theorem dAr_sum_83 : decode prog_2_method_3_code 83 = .ok (.aload_n 0, 1) := by decide +kernel
theorem dAr_sum_84 : decode prog_2_method_3_code 84 = .ok (.getfield 18, 3) := by decide +kernel
theorem dAr_sum_87 : decode prog_2_method_3_code 87 = .ok (.invokevirtual 53, 3) := by decide +kernel
theorem dAr_sum_90 : decode prog_2_method_3_code 90 = .ok (.aload_n 0, 1) := by decide +kernel
theorem dAr_sum_91 : decode prog_2_method_3_code 91 = .ok (.aload_n 0, 1) := by decide +kernel
theorem dAr_sum_92 : decode prog_2_method_3_code 92 = .ok (.getfield 12, 3) := by decide +kernel
theorem dAr_sum_95 : decode prog_2_method_3_code 95 = .ok (.aload_n 1, 1) := by decide +kernel
theorem dAr_sum_96 : decode prog_2_method_3_code 96 = .ok (.getfield 31, 3) := by decide +kernel
theorem dAr_sum_99 : decode prog_2_method_3_code 99 = .ok (.iload 4, 2) := by decide +kernel
theorem dAr_sum_101 : decode prog_2_method_3_code 101 = .ok (.invokevirtual 49, 3) := by decide +kernel
theorem dAr_sum_104 : decode prog_2_method_3_code 104 = .ok (.ireturn, 1) := by decide +kernel
abbrev qAr_sum (dC : Nat → ClassId) (dI : Nat → Nat → Nat) (dA : Nat → ClassId) (dS : Nat → Nat) (ar : Nat) (la : Nat) (ra : Nat) (sa : Nat) (qa : Nat) (xR : Nat) (wR : Nat) (crR : Nat) (tR : Int) (ngR : Int) (scR : Int) (CR : Int → Int) (lnR : Int) (gR : Nat) (FR : Int → Int) (uR : Int) (lg : Nat) (LF : Int → Int) (lu : Int) (rg : Nat) (RF : Int → Int) (ru : Int) (xx : Nat) (wx : Nat) (crx : Nat) (tx : Int) (ngx : Int) (scx : Int) (Cx : Int → Int) (lnx : Int) (gx : Nat) (Fx : Int → Int) (ux : Int) (Nx : Int) (xy : Nat) (wy : Nat) (cry : Nat) (ty : Int) (ngy : Int) (scy : Int) (Cy : Int → Int) (lny : Int) (gy : Nat) (Fy : Int → Int) (uy : Int) (Ny : Int) (sn : Int) (A : Nat → Prop) : Array Value → State → Outcome → State → Prop := QI (dC, dI) vwCl (tyA dA) (fun (r : Int) (v_ : Int × Int × Int × Int × (Int → Int) × Int × (Int → Int) × Int × (Int → Int) × Int) => RES r (sg ngx (Nx * PW 10 (max scx scy - scx)) + sg sn (Ny * PW 10 (max scx scy - scy))) (max scx scy) v_.1 v_.2.1 v_.2.2.1 v_.2.2.2.1 v_.2.2.2.2.1 v_.2.2.2.2.2.1) (fun (v_ : Int × Int × Int × Int × (Int → Int) × Int × (Int → Int) × Int × (Int → Int) × Int) => wAr dA ar xR la ra sa qa (wVa dA xR wR crR v_.1 v_.2.1 v_.2.2.1 CR v_.2.2.2.1 (wWh dA wR gR v_.2.2.2.2.1 v_.2.2.2.2.2.1 (wWh dA la lg v_.2.2.2.2.2.2.1 v_.2.2.2.2.2.2.2.1 (wWh dA ra rg v_.2.2.2.2.2.2.2.2.1 v_.2.2.2.2.2.2.2.2.2 (wVa dA xx wx crx tx ngx scx Cx lnx (wWh dA wx gx Fx ux (wVa dA xy wy cry ty ngy scy Cy lny (wWh dA wy gy Fy uy []))))))))) A
abbrev rmAr_sum : Room := { frames := 4, cells := 0, slots := 0, locals := 127 }
set_option maxRecDepth 100000 in
set_option maxHeartbeats 1000000 in
theorem cAr_sum (l : Launch) (dC : Nat → ClassId) (dI : Nat → Nat → Nat) (dA : Nat → ClassId) (dS : Nat → Nat) (ar : Nat) (la : Nat) (ra : Nat) (sa : Nat) (qa : Nat) (xR : Nat) (wR : Nat) (crR : Nat) (tR : Int) (ngR : Int) (scR : Int) (CR : Int → Int) (lnR : Int) (gR : Nat) (FR : Int → Int) (uR : Int) (lg : Nat) (LF : Int → Int) (lu : Int) (rg : Nat) (RF : Int → Int) (ru : Int) (xx : Nat) (wx : Nat) (crx : Nat) (tx : Int) (ngx : Int) (scx : Int) (Cx : Int → Int) (lnx : Int) (gx : Nat) (Fx : Int → Int) (ux : Int) (Nx : Int) (xy : Nat) (wy : Nat) (cry : Nat) (ty : Int) (ngy : Int) (scy : Int) (Cy : Int → Int) (lny : Int) (gy : Nat) (Fy : Int → Int) (uy : Int) (Ny : Int) (sn : Int) (hVx : VV tx ngx scx lnx Cx Nx) (hWx : WR Fx ux Nx) (hVy : VV ty ngy scy lny Cy Ny) (hWy : WR Fy uy Ny) (hsn : sn = 0 ∨ sn = 1) (sz : Nat) : Met l yAr_sum wsAr_sum rmAr_sum (PC (dC, dI) vwCl (tyA dA) (XC dS) [.ref ar, .ref xx, .ref xy, .int (iI sn)] (wAr dA ar xR la ra sa qa (wVa dA xR wR crR tR ngR scR CR lnR (wWh dA wR gR FR uR (wWh dA la lg LF lu (wWh dA ra rg RF ru (wVa dA xx wx crx tx ngx scx Cx lnx (wWh dA wx gx Fx ux (wVa dA xy wy cry ty ngy scy Cy lny (wWh dA wy gy Fy uy []))))))))) sz) (qAr_sum dC dI dA dS ar la ra sa qa xR wR crR tR ngR scR CR lnR gR FR uR lg LF lu rg RF ru xx wx crx tx ngx scx Cx lnx gx Fx ux Nx xy wy cry ty ngy scy Cy lny gy Fy uy Ny sn (va_A (wAr dA ar xR la ra sa qa (wVa dA xR wR crR tR ngR scR CR lnR (wWh dA wR gR FR uR (wWh dA la lg LF lu (wWh dA ra rg RF ru (wVa dA xx wx crx tx ngx scx Cx lnx (wWh dA wx gx Fx ux (wVa dA xy wy cry ty ngy scy Cy lny (wWh dA wy gy Fy uy []))))))))) sz)) 0 0 (va_A (wAr dA ar xR la ra sa qa (wVa dA xR wR crR tR ngR scR CR lnR (wWh dA wR gR FR uR (wWh dA la lg LF lu (wWh dA ra rg RF ru (wVa dA xx wx crx tx ngx scx Cx lnx (wWh dA wx gx Fx ux (wVa dA xy wy cry ty ngy scy Cy lny (wWh dA wy gy Fy uy []))))))))) sz) := by
  refine met_of (cc := prog_2_method_3_code) (maxL := 5) (ret := (some .int)) (Qc := qAr_sum dC dI dA dS ar la ra sa qa xR wR crR tR ngR scR CR lnR gR FR uR lg LF lu rg RF ru xx wx crx tx ngx scx Cx lnx gx Fx ux Nx xy wy cry ty ngy scy Cy lny gy Fy uy Ny sn) (XC_ok dS) (by decide) rfl (Nat.le_of_ble_eq_true rfl) ?_
  intro p e s m below meth c ls A hx hb hr hml hown hts hlocks hnm hK hP hD hA hX hS hl
  have hl : lv_has ls 5 [(0, .ref ar), (1, .ref xx), (2, .ref xy), (3, .int (iI sn))] := hl
  have hown : s.vm.findClass "MacroReckoner$Arithmetic" = some m.cls := hown
  obtain ⟨H, hH⟩ : ∃ H : Heap, H = s.heap := ⟨_, rfl⟩
  obtain ⟨locs, hlo⟩ : ∃ L : List Loc, L = [] := ⟨_, rfl⟩
  have hP : va_P (dC, dI) vwCl (wAr dA ar xR la ra sa qa (wVa dA xR wR crR tR ngR scR CR lnR (wWh dA wR gR FR uR (wWh dA la lg LF lu (wWh dA ra rg RF ru (wVa dA xx wx crx tx ngx scx Cx lnx (wWh dA wx gx Fx ux (wVa dA xy wy cry ty ngy scy Cy lny (wWh dA wy gy Fy uy []))))))))) H := hH ▸ hP
  have hS : va_S A s.heap H locs := by rw [hH, hlo]; exact hS
  suffices hgo : W p l e rmAr_sum s m [.ref ar, .ref xx, .ref xy, .int (iI sn)].toArray below meth c H locs 0 0 (MQ below (qAr_sum dC dI dA dS ar la ra sa qa xR wR crR tR ngR scR CR lnR gR FR uR lg LF lu rg RF ru xx wx crx tx ngx scx Cx lnx gx Fx ux Nx xy wy cry ty ngy scy Cy lny gy Fy uy Ny sn A) [.ref ar, .ref xx, .ref xy, .int (iI sn)].toArray s 0 0 A) (F0 m 0 ls []) by rw [hH, hlo] at hgo; exact hgo
  clear hH hlo
  have hVx0 := hVx
  have hVy0 := hVy
  obtain ⟨-, hngx, hscx, -, -, -, -, hx3, hx4⟩ := hVx
  have hNx0 := (WR_bd hWx).1
  obtain ⟨-, hngy, hscy, -, -, -, -, hy3, hy4⟩ := hVy
  have hNy0 := (WR_bd hWy).1
  have hbx := w60 hNx0 hx4 (show 0 ≤ max scx scy - scx by omega) (by omega)
  have hby := w60 hNy0 hy4 (show 0 ≤ max scx scy - scy by omega) (by omega)
  have hp31 := PW_s (b := 1000000000) (i := 31) (by decide)
  rw [show (31 : Int) + 1 = 32 from rfl] at hp31
  have hp0 := PW_pos (b := 1000000000) (by decide) 31
  refine lv_aload_n hx hb dAr_sum_0 rfl (lv_at hl 0 rfl) ?_
  refine lv_aload_n hx hb dAr_sum_1 rfl (lv_at hl 1 rfl) ?_
  refine lv_aload_n hx hb dAr_sum_2 rfl (lv_at hl 2 rfl) ?_
  refine cv_i (va_runV (C := "MacroReckoner$Arithmetic") (As := [.ref xx, .ref xy]) (rest := []) ⟨hx, hb, hml, hown, hts⟩ (cAr_level l dC dI dA dS ar la ra sa qa xR lg LF lu rg RF ru xx wx crx tx ngx scx Cx lnx gx Fx ux Nx xy wy cry ty ngy scy Cy lny gy Fy uy Ny (by exact hVx0) (by exact hWx) (by exact hVy0) (by exact hWy) H.size) (cwV 2 hts (gdV wt3_66 wt3_68 ws1_15 wt1_6 wt3_69) rfl rfl rfl ⟨rfl, by decide, by decide, by decide +kernel⟩ ⟨by decide, by decide⟩) (preV (q := ("MacroReckoner$Arithmetic", TAr, 5)) hK hP hD hS hA (XC_ok dS) hX [0, 5, 6, 7, 8, 9, 10, 11, 12, 13, 14, 15, 16] rfl rfl 0 rfl rfl) rfl rfl hl.1 rfl (lv_room (Nat.le_of_ble_eq_true rfl)) dAr_sum_3 ⟨Nat.zero_le _, Nat.zero_le _⟩) hP hD hS hA [0, 5, 6, 7, 8, 9, 10, 11, 12, 13, 14, 15, 16] [1, 2, 3, 4] rfl (fun v_ => wAr dA ar xR la ra sa qa (wVa dA xR wR crR tR ngR scR CR lnR (wWh dA wR gR FR uR (wWh dA la lg v_.1 v_.2.1 (wWh dA ra rg v_.2.2.1 v_.2.2.2 (wVa dA xx wx crx tx ngx scx Cx lnx (wWh dA wx gx Fx ux (wVa dA xy wy cry ty ngy scy Cy lny (wWh dA wy gy Fy uy []))))))))) (fun _ => rfl) (wVa dA xR wR crR tR ngR scR CR lnR (wWh dA wR gR FR uR [])) rfl (fun _ => rfl) [ar, xR, crR, wR, gR, la, lg, ra, rg, xx, crx, wx, gx, xy, cry, wy, gy] rfl (fun _ => rfl) (fun _ => rfl) (fun s9 u_ H locs hq3 hP hD hS => ?_)
  obtain ⟨LA, lub, RA, rub⟩ := u_
  have hP : va_P (dC, dI) vwCl (wAr dA ar xR la ra sa qa (wVa dA xR wR crR tR ngR scR CR lnR (wWh dA wR gR FR uR (wWh dA la lg LA lub (wWh dA ra rg RA rub (wVa dA xx wx crx tx ngx scx Cx lnx (wWh dA wx gx Fx ux (wVa dA xy wy cry ty ngy scy Cy lny (wWh dA wy gy Fy uy []))))))))) H := hP
  have hD : va_D A (wAr dA ar xR la ra sa qa (wVa dA xR wR crR tR ngR scR CR lnR (wWh dA wR gR FR uR (wWh dA la lg LA lub (wWh dA ra rg RA rub (wVa dA xx wx crx tx ngx scx Cx lnx (wWh dA wx gx Fx ux (wVa dA xy wy cry ty ngy scy Cy lny (wWh dA wy gy Fy uy []))))))))) := hD
  have hq3 : s9 = max scx scy ∧ WR LA lub (Nx * PW 10 (max scx scy - scx)) ∧ WR RA rub (Ny * PW 10 (max scx scy - scy)) := hq3
  obtain ⟨hs9, hL9, hR9⟩ := hq3
  refine lv_istore (lv' := [(4, .int (iI s9)), (0, .ref ar), (1, .ref xx), (2, .ref xy), (3, .int (iI sn))]) hx hb dAr_sum_6 hl (by decide) rfl (fun ls hl => ?_)
  refine lv_aload_n hx hb dAr_sum_8 rfl (lv_at hl 2 rfl) ?_
  refine va_getN (D := (dC, dI)) (ci := 4) (v := .int (iI ngx)) (C := "MacroReckoner$Value") (T := TVa) (N := 6) hx hb hts inVa hown hK hP 9 rfl rfl 2 (by decide) (va_Nw.use rfl (hX.1 ("MacroReckoner$Arithmetic", 31, "MacroReckoner$Value", "negative", "Z", "MacroReckoner") (List.mem_of_getElem? (i := 13) rfl))) (fun _ h9 => h9) rfl dAr_sum_9 ?_
  refine lv_iload_n hx hb dAr_sum_12 rfl (lv_at hl 4 rfl) ?_
  refine iv_icmp_ne (tgt := 42) hx hb dAr_sum_13 (by decide) ⟨by omega, by omega⟩ ⟨by omega, by omega⟩ (fun hc13 => ?_) (fun hc13 => ?_)
  · refine lv_aload_n hx hb dAr_sum_42 rfl (lv_at hl 1 rfl) ?_
    refine va_get (D := (dC, dI)) (ci := 0) (v := .ref la) (C := "MacroReckoner$Arithmetic") (T := TAr) (N := 5) hx hb hts inAr hown hK hP 0 rfl rfl 1 (by decide) (hts _ wt1_143) (fun _ h9 => h9) rfl dAr_sum_43 ?_
    refine lv_aload_n hx hb dAr_sum_46 rfl (lv_at hl 1 rfl) ?_
    refine va_get (D := (dC, dI)) (ci := 0) (v := .ref ra) (C := "MacroReckoner$Arithmetic") (T := TAr) (N := 5) hx hb hts inAr hown hK hP 0 rfl rfl 2 (by decide) (hts _ wt1_144) (fun _ h9 => h9) rfl dAr_sum_47 ?_
    refine cv_i (va_runV (C := "MacroReckoner$Whole") (As := [.ref ra]) (rest := []) ⟨hx, hb, hml, hown, hts⟩ (cWh_against l dC dI dA la lg LA lub (Nx * PW 10 (max scx scy - scx)) ra rg RA rub (Ny * PW 10 (max scx scy - scy)) (by exact hL9) (by exact hR9) H.size) (cwV 1 hts (gdV wt3_92 wt3_93 wt3_94 wt1_5 wt3_95) rfl rfl rfl ⟨rfl, by decide, by decide, by decide +kernel⟩ ⟨by decide, by decide⟩) (preV (q := ("MacroReckoner$Whole", TWh, 2)) hK hP hD hS hA XN_ok trivial [5, 6, 7, 8] rfl rfl 0 rfl rfl) rfl rfl hl.1 rfl (lv_room (Nat.le_of_ble_eq_true rfl)) dAr_sum_50 ⟨Nat.zero_le _, Nat.zero_le _⟩) hP hD hS hA [5, 6, 7, 8] [0, 1, 2, 3, 4, 9, 10, 11, 12, 13, 14, 15, 16] rfl (fun v_ => wAr dA ar xR la ra sa qa (wVa dA xR wR crR tR ngR scR CR lnR (wWh dA wR gR FR uR (wWh dA la lg LA lub (wWh dA ra rg RA rub (wVa dA xx wx crx tx ngx scx Cx lnx (wWh dA wx gx Fx ux (wVa dA xy wy cry ty ngy scy Cy lny (wWh dA wy gy Fy uy []))))))))) (fun _ => rfl) (wAr dA ar xR la ra sa qa (wVa dA xR wR crR tR ngR scR CR lnR (wWh dA wR gR FR uR (wVa dA xx wx crx tx ngx scx Cx lnx (wWh dA wx gx Fx ux (wVa dA xy wy cry ty ngy scy Cy lny (wWh dA wy gy Fy uy []))))))) rfl (fun _ => rfl) [ar, xR, crR, wR, gR, la, lg, ra, rg, xx, crx, wx, gx, xy, cry, wy, gy] rfl (fun _ => rfl) (fun _ => rfl) (fun r50 u_ H locs hq50 hP hD hS => ?_)
    have hP : va_P (dC, dI) vwCl (wAr dA ar xR la ra sa qa (wVa dA xR wR crR tR ngR scR CR lnR (wWh dA wR gR FR uR (wWh dA la lg LA lub (wWh dA ra rg RA rub (wVa dA xx wx crx tx ngx scx Cx lnx (wWh dA wx gx Fx ux (wVa dA xy wy cry ty ngy scy Cy lny (wWh dA wy gy Fy uy []))))))))) H := hP
    have hD : va_D A (wAr dA ar xR la ra sa qa (wVa dA xR wR crR tR ngR scR CR lnR (wWh dA wR gR FR uR (wWh dA la lg LA lub (wWh dA ra rg RA rub (wVa dA xx wx crx tx ngx scx Cx lnx (wWh dA wx gx Fx ux (wVa dA xy wy cry ty ngy scy Cy lny (wWh dA wy gy Fy uy []))))))))) := hD
    have hq50 : ((Nx * PW 10 (max scx scy - scx)) < (Ny * PW 10 (max scx scy - scy)) ∧ r50 = -1) ∨ ((Nx * PW 10 (max scx scy - scx)) = (Ny * PW 10 (max scx scy - scy)) ∧ r50 = 0) ∨ ((Ny * PW 10 (max scx scy - scy)) < (Nx * PW 10 (max scx scy - scx)) ∧ r50 = 1) := hq50
    refine iv_if_ge (tgt := 79) hx hb dAr_sum_53 (by decide) ⟨by omega, by omega⟩ (fun hc53 => ?_) (fun hc53 => ?_)
    · refine lv_aload_n hx hb dAr_sum_79 rfl (lv_at hl 1 rfl) ?_
      refine va_get (D := (dC, dI)) (ci := 0) (v := .ref la) (C := "MacroReckoner$Arithmetic") (T := TAr) (N := 5) hx hb hts inAr hown hK hP 0 rfl rfl 1 (by decide) (hts _ wt1_143) (fun _ h9 => h9) rfl dAr_sum_80 ?_
      refine lv_aload_n hx hb dAr_sum_83 rfl (lv_at hl 1 rfl) ?_
      refine va_get (D := (dC, dI)) (ci := 0) (v := .ref ra) (C := "MacroReckoner$Arithmetic") (T := TAr) (N := 5) hx hb hts inAr hown hK hP 0 rfl rfl 2 (by decide) (hts _ wt1_144) (fun _ h9 => h9) rfl dAr_sum_84 ?_
      refine cv_v (va_runV (C := "MacroReckoner$Whole") (As := [.ref ra]) (rest := []) ⟨hx, hb, hml, hown, hts⟩ (cWh_subtract l dC dI dA la lg LA lub (Nx * PW 10 (max scx scy - scx)) ra rg RA rub (Ny * PW 10 (max scx scy - scy)) (by exact hL9) (by exact hR9) (by omega) H.size) (cwV 1 hts (gdV wt3_96 wt3_97 wt3_98 wt1_5 wt3_99) rfl rfl rfl ⟨rfl, by decide, by decide, by decide +kernel⟩ ⟨by decide, by decide⟩) (preV (q := ("MacroReckoner$Whole", TWh, 2)) hK hP hD hS hA XN_ok trivial [5, 6, 7, 8] rfl rfl 0 rfl rfl) rfl rfl hl.1 rfl (lv_room (Nat.le_of_ble_eq_true rfl)) dAr_sum_87 ⟨Nat.zero_le _, Nat.zero_le _⟩) hP hD hS hA [5, 6, 7, 8] [0, 1, 2, 3, 4, 9, 10, 11, 12, 13, 14, 15, 16] rfl (fun v_ => wAr dA ar xR la ra sa qa (wVa dA xR wR crR tR ngR scR CR lnR (wWh dA wR gR FR uR (wWh dA la lg v_.1 v_.2 (wWh dA ra rg RA rub (wVa dA xx wx crx tx ngx scx Cx lnx (wWh dA wx gx Fx ux (wVa dA xy wy cry ty ngy scy Cy lny (wWh dA wy gy Fy uy []))))))))) (fun _ => rfl) (wAr dA ar xR la ra sa qa (wVa dA xR wR crR tR ngR scR CR lnR (wWh dA wR gR FR uR (wVa dA xx wx crx tx ngx scx Cx lnx (wWh dA wx gx Fx ux (wVa dA xy wy cry ty ngy scy Cy lny (wWh dA wy gy Fy uy []))))))) rfl (fun _ => rfl) [ar, xR, crR, wR, gR, la, lg, ra, rg, xx, crx, wx, gx, xy, cry, wy, gy] rfl (fun _ => rfl) (fun _ => rfl) (fun u_ H locs hq87 hP hD hS => ?_)
      obtain ⟨LC, luc⟩ := u_
      have hP : va_P (dC, dI) vwCl (wAr dA ar xR la ra sa qa (wVa dA xR wR crR tR ngR scR CR lnR (wWh dA wR gR FR uR (wWh dA la lg LC luc (wWh dA ra rg RA rub (wVa dA xx wx crx tx ngx scx Cx lnx (wWh dA wx gx Fx ux (wVa dA xy wy cry ty ngy scy Cy lny (wWh dA wy gy Fy uy []))))))))) H := hP
      have hD : va_D A (wAr dA ar xR la ra sa qa (wVa dA xR wR crR tR ngR scR CR lnR (wWh dA wR gR FR uR (wWh dA la lg LC luc (wWh dA ra rg RA rub (wVa dA xx wx crx tx ngx scx Cx lnx (wWh dA wx gx Fx ux (wVa dA xy wy cry ty ngy scy Cy lny (wWh dA wy gy Fy uy []))))))))) := hD
      have hq87 : WR LC luc ((Nx * PW 10 (max scx scy - scx)) - (Ny * PW 10 (max scx scy - scy))) := hq87
      refine lv_aload_n hx hb dAr_sum_90 rfl (lv_at hl 1 rfl) ?_
      refine lv_aload_n hx hb dAr_sum_91 rfl (lv_at hl 1 rfl) ?_
      refine va_get (D := (dC, dI)) (ci := 0) (v := .ref la) (C := "MacroReckoner$Arithmetic") (T := TAr) (N := 5) hx hb hts inAr hown hK hP 0 rfl rfl 1 (by decide) (hts _ wt1_143) (fun _ h9 => h9) rfl dAr_sum_92 ?_
      refine lv_aload_n hx hb dAr_sum_95 rfl (lv_at hl 2 rfl) ?_
      refine va_getN (D := (dC, dI)) (ci := 4) (v := .int (iI ngx)) (C := "MacroReckoner$Value") (T := TVa) (N := 6) hx hb hts inVa hown hK hP 9 rfl rfl 2 (by decide) (va_Nw.use rfl (hX.1 ("MacroReckoner$Arithmetic", 31, "MacroReckoner$Value", "negative", "Z", "MacroReckoner") (List.mem_of_getElem? (i := 13) rfl))) (fun _ h9 => h9) rfl dAr_sum_96 ?_
      refine lv_iload hx hb dAr_sum_99 (lv_at hl 0 rfl) ?_
      refine cv_i (va_runV (C := "MacroReckoner$Arithmetic") (As := [.ref la, .int (iI ngx), .int (iI s9)]) (rest := []) ⟨hx, hb, hml, hown, hts⟩ (cAr_finish l dC dI dA dS ar la ra sa qa xR wR crR tR ngR scR CR lnR gR FR uR la lg LC luc (Nx * PW 10 (max scx scy - scx) - Ny * PW 10 (max scx scy - scy)) ngx s9 (by exact hq87) (by exact hngx) H.size) (cwV 3 hts (gdV wt3_83 wt3_85 ws2_0 wt1_6 wt3_86) rfl rfl rfl ⟨rfl, by decide, by decide, by decide +kernel⟩ ⟨by decide, by decide⟩) (preV (q := ("MacroReckoner$Arithmetic", TAr, 5)) hK hP hD hS hA (XC_ok dS) hX [0, 1, 2, 3, 4, 5, 6] rfl rfl 0 rfl rfl) rfl rfl hl.1 rfl (lv_room (Nat.le_of_ble_eq_true rfl)) dAr_sum_101 ⟨Nat.zero_le _, Nat.zero_le _⟩) hP hD hS hA [0, 1, 2, 3, 4, 5, 6] [7, 8, 9, 10, 11, 12, 13, 14, 15, 16] rfl (fun v_ => wAr dA ar xR la ra sa qa (wVa dA xR wR crR v_.1 v_.2.1 v_.2.2.1 CR v_.2.2.2.1 (wWh dA wR gR v_.2.2.2.2.1 v_.2.2.2.2.2 (wWh dA la lg LC luc (wWh dA ra rg RA rub (wVa dA xx wx crx tx ngx scx Cx lnx (wWh dA wx gx Fx ux (wVa dA xy wy cry ty ngy scy Cy lny (wWh dA wy gy Fy uy []))))))))) (fun _ => rfl) (wWh dA ra rg RA rub (wVa dA xx wx crx tx ngx scx Cx lnx (wWh dA wx gx Fx ux (wVa dA xy wy cry ty ngy scy Cy lny (wWh dA wy gy Fy uy []))))) rfl (fun _ => rfl) [ar, xR, crR, wR, gR, la, lg, ra, rg, xx, crx, wx, gx, xy, cry, wy, gy] rfl (fun _ => rfl) (fun _ => rfl) (fun r101 u_ H locs hq101 hP hD hS => ?_)
      obtain ⟨t1_101, ng1_101, sc1_101, ln1_101, F1_101, u1_101⟩ := u_
      have hP : va_P (dC, dI) vwCl (wAr dA ar xR la ra sa qa (wVa dA xR wR crR t1_101 ng1_101 sc1_101 CR ln1_101 (wWh dA wR gR F1_101 u1_101 (wWh dA la lg LC luc (wWh dA ra rg RA rub (wVa dA xx wx crx tx ngx scx Cx lnx (wWh dA wx gx Fx ux (wVa dA xy wy cry ty ngy scy Cy lny (wWh dA wy gy Fy uy []))))))))) H := hP
      have hD : va_D A (wAr dA ar xR la ra sa qa (wVa dA xR wR crR t1_101 ng1_101 sc1_101 CR ln1_101 (wWh dA wR gR F1_101 u1_101 (wWh dA la lg LC luc (wWh dA ra rg RA rub (wVa dA xx wx crx tx ngx scx Cx lnx (wWh dA wx gx Fx ux (wVa dA xy wy cry ty ngy scy Cy lny (wWh dA wy gy Fy uy []))))))))) := hD
      have hq101 : RES r101 (sg ngx (Nx * PW 10 (max scx scy - scx) - Ny * PW 10 (max scx scy - scy))) s9 t1_101 ng1_101 sc1_101 ln1_101 F1_101 u1_101 := hq101
      exact rt_i hx hb hr hlocks hK hS dAr_sum_104 (t1_101, ng1_101, sc1_101, ln1_101, F1_101, u1_101, LC, luc, RA, rub) hP hD (show RES r101 (sg ngx (Nx * PW 10 (max scx scy - scx)) + sg sn (Ny * PW 10 (max scx scy - scy))) (max scx scy) t1_101 ng1_101 sc1_101 ln1_101 F1_101 u1_101 from by rw [(sum_diff hngx hsn hc13).1]; have := hq101; rw [hs9] at this; exact this)
    · refine lv_aload_n hx hb dAr_sum_56 rfl (lv_at hl 1 rfl) ?_
      refine va_get (D := (dC, dI)) (ci := 0) (v := .ref ra) (C := "MacroReckoner$Arithmetic") (T := TAr) (N := 5) hx hb hts inAr hown hK hP 0 rfl rfl 2 (by decide) (hts _ wt1_144) (fun _ h9 => h9) rfl dAr_sum_57 ?_
      refine lv_aload_n hx hb dAr_sum_60 rfl (lv_at hl 1 rfl) ?_
      refine va_get (D := (dC, dI)) (ci := 0) (v := .ref la) (C := "MacroReckoner$Arithmetic") (T := TAr) (N := 5) hx hb hts inAr hown hK hP 0 rfl rfl 1 (by decide) (hts _ wt1_143) (fun _ h9 => h9) rfl dAr_sum_61 ?_
      refine cv_v (va_runV (C := "MacroReckoner$Whole") (As := [.ref la]) (rest := []) ⟨hx, hb, hml, hown, hts⟩ (cWh_subtract l dC dI dA ra rg RA rub (Ny * PW 10 (max scx scy - scy)) la lg LA lub (Nx * PW 10 (max scx scy - scx)) (by exact hR9) (by exact hL9) (by omega) H.size) (cwV 1 hts (gdV wt3_96 wt3_97 wt3_98 wt1_5 wt3_99) rfl rfl rfl ⟨rfl, by decide, by decide, by decide +kernel⟩ ⟨by decide, by decide⟩) (preV (q := ("MacroReckoner$Whole", TWh, 2)) hK hP hD hS hA XN_ok trivial [7, 8, 5, 6] rfl rfl 0 rfl rfl) rfl rfl hl.1 rfl (lv_room (Nat.le_of_ble_eq_true rfl)) dAr_sum_64 ⟨Nat.zero_le _, Nat.zero_le _⟩) hP hD hS hA [7, 8, 5, 6] [0, 1, 2, 3, 4, 9, 10, 11, 12, 13, 14, 15, 16] rfl (fun v_ => wAr dA ar xR la ra sa qa (wVa dA xR wR crR tR ngR scR CR lnR (wWh dA wR gR FR uR (wWh dA la lg LA lub (wWh dA ra rg v_.1 v_.2 (wVa dA xx wx crx tx ngx scx Cx lnx (wWh dA wx gx Fx ux (wVa dA xy wy cry ty ngy scy Cy lny (wWh dA wy gy Fy uy []))))))))) (fun _ => rfl) (wAr dA ar xR la ra sa qa (wVa dA xR wR crR tR ngR scR CR lnR (wWh dA wR gR FR uR (wVa dA xx wx crx tx ngx scx Cx lnx (wWh dA wx gx Fx ux (wVa dA xy wy cry ty ngy scy Cy lny (wWh dA wy gy Fy uy []))))))) rfl (fun _ => rfl) [ar, xR, crR, wR, gR, la, lg, ra, rg, xx, crx, wx, gx, xy, cry, wy, gy] rfl (fun _ => rfl) (fun _ => rfl) (fun u_ H locs hq64 hP hD hS => ?_)
      obtain ⟨RC, ruc⟩ := u_
      have hP : va_P (dC, dI) vwCl (wAr dA ar xR la ra sa qa (wVa dA xR wR crR tR ngR scR CR lnR (wWh dA wR gR FR uR (wWh dA la lg LA lub (wWh dA ra rg RC ruc (wVa dA xx wx crx tx ngx scx Cx lnx (wWh dA wx gx Fx ux (wVa dA xy wy cry ty ngy scy Cy lny (wWh dA wy gy Fy uy []))))))))) H := hP
      have hD : va_D A (wAr dA ar xR la ra sa qa (wVa dA xR wR crR tR ngR scR CR lnR (wWh dA wR gR FR uR (wWh dA la lg LA lub (wWh dA ra rg RC ruc (wVa dA xx wx crx tx ngx scx Cx lnx (wWh dA wx gx Fx ux (wVa dA xy wy cry ty ngy scy Cy lny (wWh dA wy gy Fy uy []))))))))) := hD
      have hq64 : WR RC ruc ((Ny * PW 10 (max scx scy - scy)) - (Nx * PW 10 (max scx scy - scx))) := hq64
      refine lv_aload_n hx hb dAr_sum_67 rfl (lv_at hl 1 rfl) ?_
      refine lv_aload_n hx hb dAr_sum_68 rfl (lv_at hl 1 rfl) ?_
      refine va_get (D := (dC, dI)) (ci := 0) (v := .ref ra) (C := "MacroReckoner$Arithmetic") (T := TAr) (N := 5) hx hb hts inAr hown hK hP 0 rfl rfl 2 (by decide) (hts _ wt1_144) (fun _ h9 => h9) rfl dAr_sum_69 ?_
      refine lv_iload_n hx hb dAr_sum_72 rfl (lv_at hl 4 rfl) ?_
      refine lv_iload hx hb dAr_sum_73 (lv_at hl 0 rfl) ?_
      refine cv_i (va_runV (C := "MacroReckoner$Arithmetic") (As := [.ref ra, .int (iI sn), .int (iI s9)]) (rest := []) ⟨hx, hb, hml, hown, hts⟩ (cAr_finish l dC dI dA dS ar la ra sa qa xR wR crR tR ngR scR CR lnR gR FR uR ra rg RC ruc (Ny * PW 10 (max scx scy - scy) - Nx * PW 10 (max scx scy - scx)) sn s9 (by exact hq64) (by exact hsn) H.size) (cwV 3 hts (gdV wt3_83 wt3_85 ws2_0 wt1_6 wt3_86) rfl rfl rfl ⟨rfl, by decide, by decide, by decide +kernel⟩ ⟨by decide, by decide⟩) (preV (q := ("MacroReckoner$Arithmetic", TAr, 5)) hK hP hD hS hA (XC_ok dS) hX [0, 1, 2, 3, 4, 7, 8] rfl rfl 0 rfl rfl) rfl rfl hl.1 rfl (lv_room (Nat.le_of_ble_eq_true rfl)) dAr_sum_75 ⟨Nat.zero_le _, Nat.zero_le _⟩) hP hD hS hA [0, 1, 2, 3, 4, 7, 8] [5, 6, 9, 10, 11, 12, 13, 14, 15, 16] rfl (fun v_ => wAr dA ar xR la ra sa qa (wVa dA xR wR crR v_.1 v_.2.1 v_.2.2.1 CR v_.2.2.2.1 (wWh dA wR gR v_.2.2.2.2.1 v_.2.2.2.2.2 (wWh dA la lg LA lub (wWh dA ra rg RC ruc (wVa dA xx wx crx tx ngx scx Cx lnx (wWh dA wx gx Fx ux (wVa dA xy wy cry ty ngy scy Cy lny (wWh dA wy gy Fy uy []))))))))) (fun _ => rfl) (wWh dA la lg LA lub (wVa dA xx wx crx tx ngx scx Cx lnx (wWh dA wx gx Fx ux (wVa dA xy wy cry ty ngy scy Cy lny (wWh dA wy gy Fy uy []))))) rfl (fun _ => rfl) [ar, xR, crR, wR, gR, la, lg, ra, rg, xx, crx, wx, gx, xy, cry, wy, gy] rfl (fun _ => rfl) (fun _ => rfl) (fun r75 u_ H locs hq75 hP hD hS => ?_)
      obtain ⟨t1_75, ng1_75, sc1_75, ln1_75, F1_75, u1_75⟩ := u_
      have hP : va_P (dC, dI) vwCl (wAr dA ar xR la ra sa qa (wVa dA xR wR crR t1_75 ng1_75 sc1_75 CR ln1_75 (wWh dA wR gR F1_75 u1_75 (wWh dA la lg LA lub (wWh dA ra rg RC ruc (wVa dA xx wx crx tx ngx scx Cx lnx (wWh dA wx gx Fx ux (wVa dA xy wy cry ty ngy scy Cy lny (wWh dA wy gy Fy uy []))))))))) H := hP
      have hD : va_D A (wAr dA ar xR la ra sa qa (wVa dA xR wR crR t1_75 ng1_75 sc1_75 CR ln1_75 (wWh dA wR gR F1_75 u1_75 (wWh dA la lg LA lub (wWh dA ra rg RC ruc (wVa dA xx wx crx tx ngx scx Cx lnx (wWh dA wx gx Fx ux (wVa dA xy wy cry ty ngy scy Cy lny (wWh dA wy gy Fy uy []))))))))) := hD
      have hq75 : RES r75 (sg sn (Ny * PW 10 (max scx scy - scy) - Nx * PW 10 (max scx scy - scx))) s9 t1_75 ng1_75 sc1_75 ln1_75 F1_75 u1_75 := hq75
      exact rt_i hx hb hr hlocks hK hS dAr_sum_78 (t1_75, ng1_75, sc1_75, ln1_75, F1_75, u1_75, LA, lub, RC, ruc) hP hD (show RES r75 (sg ngx (Nx * PW 10 (max scx scy - scx)) + sg sn (Ny * PW 10 (max scx scy - scy))) (max scx scy) t1_75 ng1_75 sc1_75 ln1_75 F1_75 u1_75 from by rw [(sum_diff hngx hsn hc13).2]; have := hq75; rw [hs9] at this; exact this)
  · refine lv_aload_n hx hb dAr_sum_16 rfl (lv_at hl 1 rfl) ?_
    refine va_get (D := (dC, dI)) (ci := 0) (v := .ref la) (C := "MacroReckoner$Arithmetic") (T := TAr) (N := 5) hx hb hts inAr hown hK hP 0 rfl rfl 1 (by decide) (hts _ wt1_143) (fun _ h9 => h9) rfl dAr_sum_17 ?_
    refine lv_aload_n hx hb dAr_sum_20 rfl (lv_at hl 1 rfl) ?_
    refine va_get (D := (dC, dI)) (ci := 0) (v := .ref ra) (C := "MacroReckoner$Arithmetic") (T := TAr) (N := 5) hx hb hts inAr hown hK hP 0 rfl rfl 2 (by decide) (hts _ wt1_144) (fun _ h9 => h9) rfl dAr_sum_21 ?_
    refine cv_v (va_runV (C := "MacroReckoner$Whole") (As := [.ref ra]) (rest := []) ⟨hx, hb, hml, hown, hts⟩ (cWh_add l dC dI dA la lg LA lub (Nx * PW 10 (max scx scy - scx)) ra rg RA rub (Ny * PW 10 (max scx scy - scy)) (by exact hL9) (by exact hR9) (by omega) H.size) (cwV 1 hts (gdV wt3_77 wt3_78 wt3_79 wt1_5 wt3_80) rfl rfl rfl ⟨rfl, by decide, by decide, by decide +kernel⟩ ⟨by decide, by decide⟩) (preV (q := ("MacroReckoner$Whole", TWh, 2)) hK hP hD hS hA XN_ok trivial [5, 6, 7, 8] rfl rfl 0 rfl rfl) rfl rfl hl.1 rfl (lv_room (Nat.le_of_ble_eq_true rfl)) dAr_sum_24 ⟨Nat.zero_le _, Nat.zero_le _⟩) hP hD hS hA [5, 6, 7, 8] [0, 1, 2, 3, 4, 9, 10, 11, 12, 13, 14, 15, 16] rfl (fun v_ => wAr dA ar xR la ra sa qa (wVa dA xR wR crR tR ngR scR CR lnR (wWh dA wR gR FR uR (wWh dA la lg v_.1 v_.2 (wWh dA ra rg RA rub (wVa dA xx wx crx tx ngx scx Cx lnx (wWh dA wx gx Fx ux (wVa dA xy wy cry ty ngy scy Cy lny (wWh dA wy gy Fy uy []))))))))) (fun _ => rfl) (wAr dA ar xR la ra sa qa (wVa dA xR wR crR tR ngR scR CR lnR (wWh dA wR gR FR uR (wVa dA xx wx crx tx ngx scx Cx lnx (wWh dA wx gx Fx ux (wVa dA xy wy cry ty ngy scy Cy lny (wWh dA wy gy Fy uy []))))))) rfl (fun _ => rfl) [ar, xR, crR, wR, gR, la, lg, ra, rg, xx, crx, wx, gx, xy, cry, wy, gy] rfl (fun _ => rfl) (fun _ => rfl) (fun u_ H locs hq24 hP hD hS => ?_)
    obtain ⟨LC, luc⟩ := u_
    have hP : va_P (dC, dI) vwCl (wAr dA ar xR la ra sa qa (wVa dA xR wR crR tR ngR scR CR lnR (wWh dA wR gR FR uR (wWh dA la lg LC luc (wWh dA ra rg RA rub (wVa dA xx wx crx tx ngx scx Cx lnx (wWh dA wx gx Fx ux (wVa dA xy wy cry ty ngy scy Cy lny (wWh dA wy gy Fy uy []))))))))) H := hP
    have hD : va_D A (wAr dA ar xR la ra sa qa (wVa dA xR wR crR tR ngR scR CR lnR (wWh dA wR gR FR uR (wWh dA la lg LC luc (wWh dA ra rg RA rub (wVa dA xx wx crx tx ngx scx Cx lnx (wWh dA wx gx Fx ux (wVa dA xy wy cry ty ngy scy Cy lny (wWh dA wy gy Fy uy []))))))))) := hD
    have hq24 : WR LC luc ((Nx * PW 10 (max scx scy - scx)) + (Ny * PW 10 (max scx scy - scy))) := hq24
    refine lv_aload_n hx hb dAr_sum_27 rfl (lv_at hl 1 rfl) ?_
    refine lv_aload_n hx hb dAr_sum_28 rfl (lv_at hl 1 rfl) ?_
    refine va_get (D := (dC, dI)) (ci := 0) (v := .ref la) (C := "MacroReckoner$Arithmetic") (T := TAr) (N := 5) hx hb hts inAr hown hK hP 0 rfl rfl 1 (by decide) (hts _ wt1_143) (fun _ h9 => h9) rfl dAr_sum_29 ?_
    refine lv_aload_n hx hb dAr_sum_32 rfl (lv_at hl 2 rfl) ?_
    refine va_getN (D := (dC, dI)) (ci := 4) (v := .int (iI ngx)) (C := "MacroReckoner$Value") (T := TVa) (N := 6) hx hb hts inVa hown hK hP 9 rfl rfl 2 (by decide) (va_Nw.use rfl (hX.1 ("MacroReckoner$Arithmetic", 31, "MacroReckoner$Value", "negative", "Z", "MacroReckoner") (List.mem_of_getElem? (i := 13) rfl))) (fun _ h9 => h9) rfl dAr_sum_33 ?_
    refine lv_iload hx hb dAr_sum_36 (lv_at hl 0 rfl) ?_
    refine cv_i (va_runV (C := "MacroReckoner$Arithmetic") (As := [.ref la, .int (iI ngx), .int (iI s9)]) (rest := []) ⟨hx, hb, hml, hown, hts⟩ (cAr_finish l dC dI dA dS ar la ra sa qa xR wR crR tR ngR scR CR lnR gR FR uR la lg LC luc (Nx * PW 10 (max scx scy - scx) + Ny * PW 10 (max scx scy - scy)) ngx s9 (by exact hq24) (by exact hngx) H.size) (cwV 3 hts (gdV wt3_83 wt3_85 ws2_0 wt1_6 wt3_86) rfl rfl rfl ⟨rfl, by decide, by decide, by decide +kernel⟩ ⟨by decide, by decide⟩) (preV (q := ("MacroReckoner$Arithmetic", TAr, 5)) hK hP hD hS hA (XC_ok dS) hX [0, 1, 2, 3, 4, 5, 6] rfl rfl 0 rfl rfl) rfl rfl hl.1 rfl (lv_room (Nat.le_of_ble_eq_true rfl)) dAr_sum_38 ⟨Nat.zero_le _, Nat.zero_le _⟩) hP hD hS hA [0, 1, 2, 3, 4, 5, 6] [7, 8, 9, 10, 11, 12, 13, 14, 15, 16] rfl (fun v_ => wAr dA ar xR la ra sa qa (wVa dA xR wR crR v_.1 v_.2.1 v_.2.2.1 CR v_.2.2.2.1 (wWh dA wR gR v_.2.2.2.2.1 v_.2.2.2.2.2 (wWh dA la lg LC luc (wWh dA ra rg RA rub (wVa dA xx wx crx tx ngx scx Cx lnx (wWh dA wx gx Fx ux (wVa dA xy wy cry ty ngy scy Cy lny (wWh dA wy gy Fy uy []))))))))) (fun _ => rfl) (wWh dA ra rg RA rub (wVa dA xx wx crx tx ngx scx Cx lnx (wWh dA wx gx Fx ux (wVa dA xy wy cry ty ngy scy Cy lny (wWh dA wy gy Fy uy []))))) rfl (fun _ => rfl) [ar, xR, crR, wR, gR, la, lg, ra, rg, xx, crx, wx, gx, xy, cry, wy, gy] rfl (fun _ => rfl) (fun _ => rfl) (fun r38 u_ H locs hq38 hP hD hS => ?_)
    obtain ⟨t1_38, ng1_38, sc1_38, ln1_38, F1_38, u1_38⟩ := u_
    have hP : va_P (dC, dI) vwCl (wAr dA ar xR la ra sa qa (wVa dA xR wR crR t1_38 ng1_38 sc1_38 CR ln1_38 (wWh dA wR gR F1_38 u1_38 (wWh dA la lg LC luc (wWh dA ra rg RA rub (wVa dA xx wx crx tx ngx scx Cx lnx (wWh dA wx gx Fx ux (wVa dA xy wy cry ty ngy scy Cy lny (wWh dA wy gy Fy uy []))))))))) H := hP
    have hD : va_D A (wAr dA ar xR la ra sa qa (wVa dA xR wR crR t1_38 ng1_38 sc1_38 CR ln1_38 (wWh dA wR gR F1_38 u1_38 (wWh dA la lg LC luc (wWh dA ra rg RA rub (wVa dA xx wx crx tx ngx scx Cx lnx (wWh dA wx gx Fx ux (wVa dA xy wy cry ty ngy scy Cy lny (wWh dA wy gy Fy uy []))))))))) := hD
    have hq38 : RES r38 (sg ngx (Nx * PW 10 (max scx scy - scx) + Ny * PW 10 (max scx scy - scy))) s9 t1_38 ng1_38 sc1_38 ln1_38 F1_38 u1_38 := hq38
    exact rt_i hx hb hr hlocks hK hS dAr_sum_41 (t1_38, ng1_38, sc1_38, ln1_38, F1_38, u1_38, LC, luc, RA, rub) hP hD (show RES r38 (sg ngx (Nx * PW 10 (max scx scy - scx)) + sg sn (Ny * PW 10 (max scx scy - scy))) (max scx scy) t1_38 ng1_38 sc1_38 ln1_38 F1_38 u1_38 from by rw [sum_same hc13]; have := hq38; rw [hs9] at this; exact this)
