theorem dAr_product_0 : decode prog_2_method_4_code 0 = .ok (.aload_n 1, 1) := by decide +kernel
theorem dAr_product_1 : decode prog_2_method_4_code 1 = .ok (.getfield 56, 3) := by decide +kernel
theorem dAr_product_4 : decode prog_2_method_4_code 4 = .ok (.aload_n 2, 1) := by decide +kernel
theorem dAr_product_5 : decode prog_2_method_4_code 5 = .ok (.getfield 56, 3) := by decide +kernel
theorem dAr_product_8 : decode prog_2_method_4_code 8 = .ok (.iadd, 1) := by decide +kernel
theorem dAr_product_9 : decode prog_2_method_4_code 9 = .ok (.istore 4, 2) := by decide +kernel
theorem dAr_product_11 : decode prog_2_method_4_code 11 = .ok (.iload 4, 2) := by decide +kernel
theorem dAr_product_13 : decode prog_2_method_4_code 13 = .ok (.iload_n 3, 1) := by decide +kernel
theorem dAr_product_14 : decode prog_2_method_4_code 14 = .ok (.aload_n 1, 1) := by decide +kernel
theorem dAr_product_15 : decode prog_2_method_4_code 15 = .ok (.getfield 56, 3) := by decide +kernel
theorem dAr_product_18 : decode prog_2_method_4_code 18 = .ok (.aload_n 2, 1) := by decide +kernel
theorem dAr_product_19 : decode prog_2_method_4_code 19 = .ok (.getfield 56, 3) := by decide +kernel
theorem dAr_product_22 : decode prog_2_method_4_code 22 = .ok (.invokestatic 60, 3) := by decide +kernel
theorem dAr_product_25 : decode prog_2_method_4_code 25 = .ok (.invokestatic 60, 3) := by decide +kernel
theorem dAr_product_28 : decode prog_2_method_4_code 28 = .ok (.invokestatic 66, 3) := by decide +kernel
theorem dAr_product_31 : decode prog_2_method_4_code 31 = .ok (.istore 5, 2) := by decide +kernel
theorem dAr_product_33 : decode prog_2_method_4_code 33 = .ok (.aload_n 0, 1) := by decide +kernel
theorem dAr_product_34 : decode prog_2_method_4_code 34 = .ok (.getfield 12, 3) := by decide +kernel
theorem dAr_product_37 : decode prog_2_method_4_code 37 = .ok (.aload_n 1, 1) := by decide +kernel
theorem dAr_product_38 : decode prog_2_method_4_code 38 = .ok (.getfield 69, 3) := by decide +kernel
theorem dAr_product_41 : decode prog_2_method_4_code 41 = .ok (.aload_n 2, 1) := by decide +kernel
theorem dAr_product_42 : decode prog_2_method_4_code 42 = .ok (.getfield 69, 3) := by decide +kernel
theorem dAr_product_45 : decode prog_2_method_4_code 45 = .ok (.invokevirtual 72, 3) := by decide +kernel
theorem dAr_product_48 : decode prog_2_method_4_code 48 = .ok (.aload_n 0, 1) := by decide +kernel
theorem dAr_product_49 : decode prog_2_method_4_code 49 = .ok (.getfield 12, 3) := by decide +kernel
theorem dAr_product_52 : decode prog_2_method_4_code 52 = .ok (.iload 4, 2) := by decide +kernel
theorem dAr_product_54 : decode prog_2_method_4_code 54 = .ok (.iload 5, 2) := by decide +kernel
theorem dAr_product_56 : decode prog_2_method_4_code 56 = .ok (.isub, 1) := by decide +kernel
theorem dAr_product_57 : decode prog_2_method_4_code 57 = .ok (.invokevirtual 76, 3) := by decide +kernel
theorem dAr_product_60 : decode prog_2_method_4_code 60 = .ok (.aload_n 0, 1) := by decide +kernel
theorem dAr_product_61 : decode prog_2_method_4_code 61 = .ok (.aload_n 0, 1) := by decide +kernel
theorem dAr_product_62 : decode prog_2_method_4_code 62 = .ok (.getfield 12, 3) := by decide +kernel
theorem dAr_product_65 : decode prog_2_method_4_code 65 = .ok (.aload_n 1, 1) := by decide +kernel
theorem dAr_product_66 : decode prog_2_method_4_code 66 = .ok (.getfield 31, 3) := by decide +kernel
theorem dAr_product_69 : decode prog_2_method_4_code 69 = .ok (.aload_n 2, 1) := by decide +kernel
theorem dAr_product_70 : decode prog_2_method_4_code 70 = .ok (.getfield 31, 3) := by decide +kernel
theorem dAr_product_73 : decode prog_2_method_4_code 73 = .ok (.if_icmp .eq 7, 3) := by decide +kernel
theorem dAr_product_76 : decode prog_2_method_4_code 76 = .ok (.iconst 1, 1) := by decide +kernel
theorem dAr_product_77 : decode prog_2_method_4_code 77 = .ok (.goto 4, 3) := by decide +kernel
theorem dAr_product_80 : decode prog_2_method_4_code 80 = .ok (.iconst 0, 1) := by decide +kernel
theorem dAr_product_81 : decode prog_2_method_4_code 81 = .ok (.iload 5, 2) := by decide +kernel
theorem dAr_product_83 : decode prog_2_method_4_code 83 = .ok (.invokevirtual 49, 3) := by decide +kernel
theorem dAr_product_86 : decode prog_2_method_4_code 86 = .ok (.ireturn, 1) := by decide +kernel
abbrev qAr_product (dC : Nat → ClassId) (dI : Nat → Nat → Nat) (dA : Nat → ClassId) (dS : Nat → Nat) (ar : Nat) (la : Nat) (ra : Nat) (sa : Nat) (qa : Nat) (xR : Nat) (wR : Nat) (crR : Nat) (tR : Int) (ngR : Int) (scR : Int) (CR : Int → Int) (lnR : Int) (gR : Nat) (FR : Int → Int) (uR : Int) (lg : Nat) (LF : Int → Int) (lu : Int) (xx : Nat) (wx : Nat) (crx : Nat) (tx : Int) (ngx : Int) (scx : Int) (Cx : Int → Int) (lnx : Int) (gx : Nat) (Fx : Int → Int) (ux : Int) (Nx : Int) (xy : Nat) (wy : Nat) (cry : Nat) (ty : Int) (ngy : Int) (scy : Int) (Cy : Int → Int) (lny : Int) (gy : Nat) (Fy : Int → Int) (uy : Int) (Ny : Int) (ws : Int) (A : Nat → Prop) : Array Value → State → Outcome → State → Prop := QI (dC, dI) vwCl (tyA dA) (fun (r : Int) (v_ : Int × Int × Int × Int × (Int → Int) × Int × (Int → Int) × Int) => RES r (sg (if ngx = ngy then 0 else 1) (Nx * Ny / PW 10 (scx + scy - min (scx + scy) (max ws (max scx scy))))) (min (scx + scy) (max ws (max scx scy))) v_.1 v_.2.1 v_.2.2.1 v_.2.2.2.1 v_.2.2.2.2.1 v_.2.2.2.2.2.1) (fun (v_ : Int × Int × Int × Int × (Int → Int) × Int × (Int → Int) × Int) => wAr dA ar xR la ra sa qa (wVa dA xR wR crR v_.1 v_.2.1 v_.2.2.1 CR v_.2.2.2.1 (wWh dA wR gR v_.2.2.2.2.1 v_.2.2.2.2.2.1 (wWh dA la lg v_.2.2.2.2.2.2.1 v_.2.2.2.2.2.2.2 (wVa dA xx wx crx tx ngx scx Cx lnx (wWh dA wx gx Fx ux (wVa dA xy wy cry ty ngy scy Cy lny (wWh dA wy gy Fy uy [])))))))) A
abbrev rmAr_product : Room := { frames := 4, cells := 0, slots := 0, locals := 127 }
set_option maxRecDepth 100000 in
set_option maxHeartbeats 1000000 in
theorem cAr_product (l : Launch) (dC : Nat → ClassId) (dI : Nat → Nat → Nat) (dA : Nat → ClassId) (dS : Nat → Nat) (ar : Nat) (la : Nat) (ra : Nat) (sa : Nat) (qa : Nat) (xR : Nat) (wR : Nat) (crR : Nat) (tR : Int) (ngR : Int) (scR : Int) (CR : Int → Int) (lnR : Int) (gR : Nat) (FR : Int → Int) (uR : Int) (lg : Nat) (LF : Int → Int) (lu : Int) (xx : Nat) (wx : Nat) (crx : Nat) (tx : Int) (ngx : Int) (scx : Int) (Cx : Int → Int) (lnx : Int) (gx : Nat) (Fx : Int → Int) (ux : Int) (Nx : Int) (xy : Nat) (wy : Nat) (cry : Nat) (ty : Int) (ngy : Int) (scy : Int) (Cy : Int → Int) (lny : Int) (gy : Nat) (Fy : Int → Int) (uy : Int) (Ny : Int) (ws : Int) (hVx : VV tx ngx scx lnx Cx Nx) (hWx : WR Fx ux Nx) (hVy : VV ty ngy scy lny Cy Ny) (hWy : WR Fy uy Ny) (hws : 0 ≤ ws ∧ ws ≤ 40) (sz : Nat) : Met l yAr_product wsAr_product rmAr_product (PC (dC, dI) vwCl (tyA dA) (XC dS) [.ref ar, .ref xx, .ref xy, .int (iI ws)] (wAr dA ar xR la ra sa qa (wVa dA xR wR crR tR ngR scR CR lnR (wWh dA wR gR FR uR (wWh dA la lg LF lu (wVa dA xx wx crx tx ngx scx Cx lnx (wWh dA wx gx Fx ux (wVa dA xy wy cry ty ngy scy Cy lny (wWh dA wy gy Fy uy [])))))))) sz) (qAr_product dC dI dA dS ar la ra sa qa xR wR crR tR ngR scR CR lnR gR FR uR lg LF lu xx wx crx tx ngx scx Cx lnx gx Fx ux Nx xy wy cry ty ngy scy Cy lny gy Fy uy Ny ws (va_A (wAr dA ar xR la ra sa qa (wVa dA xR wR crR tR ngR scR CR lnR (wWh dA wR gR FR uR (wWh dA la lg LF lu (wVa dA xx wx crx tx ngx scx Cx lnx (wWh dA wx gx Fx ux (wVa dA xy wy cry ty ngy scy Cy lny (wWh dA wy gy Fy uy [])))))))) sz)) 0 0 (va_A (wAr dA ar xR la ra sa qa (wVa dA xR wR crR tR ngR scR CR lnR (wWh dA wR gR FR uR (wWh dA la lg LF lu (wVa dA xx wx crx tx ngx scx Cx lnx (wWh dA wx gx Fx ux (wVa dA xy wy cry ty ngy scy Cy lny (wWh dA wy gy Fy uy [])))))))) sz) := by
  refine met_of (cc := prog_2_method_4_code) (maxL := 6) (ret := (some .int)) (Qc := qAr_product dC dI dA dS ar la ra sa qa xR wR crR tR ngR scR CR lnR gR FR uR lg LF lu xx wx crx tx ngx scx Cx lnx gx Fx ux Nx xy wy cry ty ngy scy Cy lny gy Fy uy Ny ws) (XC_ok dS) (by decide) rfl (Nat.le_of_ble_eq_true rfl) ?_
  intro p e s m below meth c ls A hx hb hr hml hown hts hlocks hnm hK hP hD hA hX hS hl
  have hl : lv_has ls 6 [(0, .ref ar), (1, .ref xx), (2, .ref xy), (3, .int (iI ws))] := hl
  have hown : s.vm.findClass "MacroReckoner$Arithmetic" = some m.cls := hown
  obtain ⟨H, hH⟩ : ∃ H : Heap, H = s.heap := ⟨_, rfl⟩
  obtain ⟨locs, hlo⟩ : ∃ L : List Loc, L = [] := ⟨_, rfl⟩
  have hP : va_P (dC, dI) vwCl (wAr dA ar xR la ra sa qa (wVa dA xR wR crR tR ngR scR CR lnR (wWh dA wR gR FR uR (wWh dA la lg LF lu (wVa dA xx wx crx tx ngx scx Cx lnx (wWh dA wx gx Fx ux (wVa dA xy wy cry ty ngy scy Cy lny (wWh dA wy gy Fy uy [])))))))) H := hH ▸ hP
  have hS : va_S A s.heap H locs := by rw [hH, hlo]; exact hS
  suffices hgo : W p l e rmAr_product s m [.ref ar, .ref xx, .ref xy, .int (iI ws)].toArray below meth c H locs 0 0 (MQ below (qAr_product dC dI dA dS ar la ra sa qa xR wR crR tR ngR scR CR lnR gR FR uR lg LF lu xx wx crx tx ngx scx Cx lnx gx Fx ux Nx xy wy cry ty ngy scy Cy lny gy Fy uy Ny ws A) [.ref ar, .ref xx, .ref xy, .int (iI ws)].toArray s 0 0 A) (F0 m 0 ls []) by rw [hH, hlo] at hgo; exact hgo
  clear hH hlo
  obtain ⟨-, hngx, hscx, -, -, -, -, hx3, hx4⟩ := hVx
  have hNx0 := (WR_bd hWx).1
  obtain ⟨-, hngy, hscy, -, -, -, -, hy3, hy4⟩ := hVy
  have hNy0 := (WR_bd hWy).1
  have hu6 := u60 hWx hx4
  have hu7 := u60 hWy hy4
  refine lv_aload_n hx hb dAr_product_0 rfl (lv_at hl 1 rfl) ?_
  refine va_getN (D := (dC, dI)) (ci := 4) (v := .int (iI scx)) (C := "MacroReckoner$Value") (T := TVa) (N := 6) hx hb hts inVa hown hK hP 7 rfl rfl 3 (by decide) (va_Nw.use rfl (hX.1 ("MacroReckoner$Arithmetic", 56, "MacroReckoner$Value", "scale", "I", "MacroReckoner") (List.mem_of_getElem? (i := 16) rfl))) (fun _ h9 => h9) rfl dAr_product_1 ?_
  refine lv_aload_n hx hb dAr_product_4 rfl (lv_at hl 2 rfl) ?_
  refine va_getN (D := (dC, dI)) (ci := 4) (v := .int (iI scy)) (C := "MacroReckoner$Value") (T := TVa) (N := 6) hx hb hts inVa hown hK hP 11 rfl rfl 3 (by decide) (va_Nw.use rfl (hX.1 ("MacroReckoner$Arithmetic", 56, "MacroReckoner$Value", "scale", "I", "MacroReckoner") (List.mem_of_getElem? (i := 16) rfl))) (fun _ h9 => h9) rfl dAr_product_5 ?_
  refine iv_iadd hx hb dAr_product_8 ?_
  refine lv_istore (lv' := [(4, .int (iI (scx + scy))), (0, .ref ar), (1, .ref xx), (2, .ref xy), (3, .int (iI ws))]) hx hb dAr_product_9 hl (by decide) rfl (fun ls hl => ?_)
  refine lv_iload hx hb dAr_product_11 (lv_at hl 0 rfl) ?_
  refine lv_iload_n hx hb dAr_product_13 rfl (lv_at hl 4 rfl) ?_
  refine lv_aload_n hx hb dAr_product_14 rfl (lv_at hl 2 rfl) ?_
  refine va_getN (D := (dC, dI)) (ci := 4) (v := .int (iI scx)) (C := "MacroReckoner$Value") (T := TVa) (N := 6) hx hb hts inVa hown hK hP 7 rfl rfl 3 (by decide) (va_Nw.use rfl (hX.1 ("MacroReckoner$Arithmetic", 56, "MacroReckoner$Value", "scale", "I", "MacroReckoner") (List.mem_of_getElem? (i := 16) rfl))) (fun _ h9 => h9) rfl dAr_product_15 ?_
  refine lv_aload_n hx hb dAr_product_18 rfl (lv_at hl 3 rfl) ?_
  refine va_getN (D := (dC, dI)) (ci := 4) (v := .int (iI scy)) (C := "MacroReckoner$Value") (T := TVa) (N := 6) hx hb hts inVa hown hK hP 11 rfl rfl 3 (by decide) (va_Nw.use rfl (hX.1 ("MacroReckoner$Arithmetic", 56, "MacroReckoner$Value", "scale", "I", "MacroReckoner") (List.mem_of_getElem? (i := 16) rfl))) (fun _ h9 => h9) rfl dAr_product_19 ?_
  refine iv_mmax hx hb (hml.trans hl.1.symm) hown (hts _ wt3_70) (hts _ wt2_178) (hts _ wt1_16) (hts _ wt2_179) (by decide) (Nat.le_of_ble_eq_true rfl) (Nat.zero_le _) (Nat.zero_le _) dAr_product_22 ⟨by omega, by omega⟩ ⟨by omega, by omega⟩ ?_
  refine iv_mmax hx hb (hml.trans hl.1.symm) hown (hts _ wt3_70) (hts _ wt2_178) (hts _ wt1_16) (hts _ wt2_179) (by decide) (Nat.le_of_ble_eq_true rfl) (Nat.zero_le _) (Nat.zero_le _) dAr_product_25 ⟨by omega, by omega⟩ ⟨by omega, by omega⟩ ?_
  refine iv_mmin hx hb (hml.trans hl.1.symm) hown (hts _ wt3_108) (hts _ wt2_181) (hts _ wt1_16) (hts _ wt2_182) (by decide) (Nat.le_of_ble_eq_true rfl) (Nat.zero_le _) (Nat.zero_le _) dAr_product_28 ⟨by omega, by omega⟩ ⟨by omega, by omega⟩ ?_
  refine lv_istore (lv' := [(5, .int (iI (min (scx + scy) (max ws (max scx scy))))), (4, .int (iI (scx + scy))), (0, .ref ar), (1, .ref xx), (2, .ref xy), (3, .int (iI ws))]) hx hb dAr_product_31 hl (by decide) rfl (fun ls hl => ?_)
  have hsB : 0 ≤ scx + scy - (min (scx + scy) (max ws (max scx scy))) ∧ scx + scy - (min (scx + scy) (max ws (max scx scy))) ≤ 80 := by omega
  refine lv_aload_n hx hb dAr_product_33 rfl (lv_at hl 2 rfl) ?_
  refine va_get (D := (dC, dI)) (ci := 0) (v := .ref la) (C := "MacroReckoner$Arithmetic") (T := TAr) (N := 5) hx hb hts inAr hown hK hP 0 rfl rfl 1 (by decide) (hts _ wt1_143) (fun _ h9 => h9) rfl dAr_product_34 ?_
  refine lv_aload_n hx hb dAr_product_37 rfl (lv_at hl 3 rfl) ?_
  refine va_getN (D := (dC, dI)) (ci := 4) (v := .ref wx) (C := "MacroReckoner$Value") (T := TVa) (N := 6) hx hb hts inVa hown hK hP 7 rfl rfl 1 (by decide) (va_Nw.use rfl (hX.1 ("MacroReckoner$Arithmetic", 69, "MacroReckoner$Value", "whole", "LMacroReckoner$Whole;", "MacroReckoner") (List.mem_of_getElem? (i := 10) rfl))) (fun _ h9 => h9) rfl dAr_product_38 ?_
  refine lv_aload_n hx hb dAr_product_41 rfl (lv_at hl 4 rfl) ?_
  refine va_getN (D := (dC, dI)) (ci := 4) (v := .ref wy) (C := "MacroReckoner$Value") (T := TVa) (N := 6) hx hb hts inVa hown hK hP 11 rfl rfl 1 (by decide) (va_Nw.use rfl (hX.1 ("MacroReckoner$Arithmetic", 69, "MacroReckoner$Value", "whole", "LMacroReckoner$Whole;", "MacroReckoner") (List.mem_of_getElem? (i := 10) rfl))) (fun _ h9 => h9) rfl dAr_product_42 ?_
  refine cv_v (va_runV (C := "MacroReckoner$Whole") (As := [.ref wx, .ref wy]) (rest := []) ⟨hx, hb, hml, hown, hts⟩ (cWh_becomeProduct l dC dI dA la lg LF lu wx gx Fx ux Nx wy gy Fy uy Ny (by exact hWx) (by exact hWy) (by omega) H.size) (cwV 2 hts (gdV wt3_109 wt3_110 wt3_111 wt1_5 wt3_112) rfl rfl rfl ⟨rfl, by decide, by decide, by decide +kernel⟩ ⟨by decide, by decide⟩) (preV (q := ("MacroReckoner$Whole", TWh, 2)) hK hP hD hS hA XN_ok trivial [5, 6, 9, 10, 13, 14] rfl rfl 0 rfl rfl) rfl rfl hl.1 rfl (lv_room (Nat.le_of_ble_eq_true rfl)) dAr_product_45 ⟨Nat.zero_le _, Nat.zero_le _⟩) hP hD hS hA [5, 6, 9, 10, 13, 14] [0, 1, 2, 3, 4, 7, 8, 11, 12] rfl (fun v_ => wAr dA ar xR la ra sa qa (wVa dA xR wR crR tR ngR scR CR lnR (wWh dA wR gR FR uR (wWh dA la lg v_.1 v_.2 (wVa dA xx wx crx tx ngx scx Cx lnx (wWh dA wx gx Fx ux (wVa dA xy wy cry ty ngy scy Cy lny (wWh dA wy gy Fy uy [])))))))) (fun _ => rfl) (wAr dA ar xR la ra sa qa (wVa dA xR wR crR tR ngR scR CR lnR (wWh dA wR gR FR uR (wVa dA xx wx crx tx ngx scx Cx lnx (wVa dA xy wy cry ty ngy scy Cy lny []))))) rfl (fun _ => rfl) [ar, xR, crR, wR, gR, la, lg, xx, crx, wx, gx, xy, cry, wy, gy] rfl (fun _ => rfl) (fun _ => rfl) (fun u_ H locs hq45 hP hD hS => ?_)
  obtain ⟨LA, lua⟩ := u_
  have hP : va_P (dC, dI) vwCl (wAr dA ar xR la ra sa qa (wVa dA xR wR crR tR ngR scR CR lnR (wWh dA wR gR FR uR (wWh dA la lg LA lua (wVa dA xx wx crx tx ngx scx Cx lnx (wWh dA wx gx Fx ux (wVa dA xy wy cry ty ngy scy Cy lny (wWh dA wy gy Fy uy [])))))))) H := hP
  have hD : va_D A (wAr dA ar xR la ra sa qa (wVa dA xR wR crR tR ngR scR CR lnR (wWh dA wR gR FR uR (wWh dA la lg LA lua (wVa dA xx wx crx tx ngx scx Cx lnx (wWh dA wx gx Fx ux (wVa dA xy wy cry ty ngy scy Cy lny (wWh dA wy gy Fy uy [])))))))) := hD
  have hq45 : WR LA lua (Nx * Ny) := hq45
  refine lv_aload_n hx hb dAr_product_48 rfl (lv_at hl 2 rfl) ?_
  refine va_get (D := (dC, dI)) (ci := 0) (v := .ref la) (C := "MacroReckoner$Arithmetic") (T := TAr) (N := 5) hx hb hts inAr hown hK hP 0 rfl rfl 1 (by decide) (hts _ wt1_143) (fun _ h9 => h9) rfl dAr_product_49 ?_
  refine lv_iload hx hb dAr_product_52 (lv_at hl 1 rfl) ?_
  refine lv_iload hx hb dAr_product_54 (lv_at hl 0 rfl) ?_
  refine iv_isub hx hb dAr_product_56 ?_
  refine cv_v (va_runV (C := "MacroReckoner$Whole") (As := [.int (iI ((scx + scy) - (min (scx + scy) (max ws (max scx scy)))))]) (rest := []) ⟨hx, hb, hml, hown, hts⟩ (cWh_cut l dC dI dA dS la lg LA lua (Nx * Ny) ((scx + scy) - (min (scx + scy) (max ws (max scx scy)))) (by exact hq45) (by omega) H.size) (cwV 1 hts (gdV wt3_114 wt3_115 wt3_116 wt1_5 wt3_117) rfl rfl rfl ⟨rfl, by decide, by decide, by decide +kernel⟩ ⟨by decide, by decide⟩) (preV (q := ("MacroReckoner$Whole", TWh, 2)) hK hP hD hS hA (XC_ok dS) hX [5, 6] rfl rfl 0 rfl rfl) rfl rfl hl.1 rfl (lv_room (Nat.le_of_ble_eq_true rfl)) dAr_product_57 ⟨Nat.zero_le _, Nat.zero_le _⟩) hP hD hS hA [5, 6] [0, 1, 2, 3, 4, 7, 8, 9, 10, 11, 12, 13, 14] rfl (fun v_ => wAr dA ar xR la ra sa qa (wVa dA xR wR crR tR ngR scR CR lnR (wWh dA wR gR FR uR (wWh dA la lg v_.1 v_.2 (wVa dA xx wx crx tx ngx scx Cx lnx (wWh dA wx gx Fx ux (wVa dA xy wy cry ty ngy scy Cy lny (wWh dA wy gy Fy uy [])))))))) (fun _ => rfl) (wAr dA ar xR la ra sa qa (wVa dA xR wR crR tR ngR scR CR lnR (wWh dA wR gR FR uR (wVa dA xx wx crx tx ngx scx Cx lnx (wWh dA wx gx Fx ux (wVa dA xy wy cry ty ngy scy Cy lny (wWh dA wy gy Fy uy []))))))) rfl (fun _ => rfl) [ar, xR, crR, wR, gR, la, lg, xx, crx, wx, gx, xy, cry, wy, gy] rfl (fun _ => rfl) (fun _ => rfl) (fun u_ H locs hq57 hP hD hS => ?_)
  obtain ⟨LB, lub⟩ := u_
  have hP : va_P (dC, dI) vwCl (wAr dA ar xR la ra sa qa (wVa dA xR wR crR tR ngR scR CR lnR (wWh dA wR gR FR uR (wWh dA la lg LB lub (wVa dA xx wx crx tx ngx scx Cx lnx (wWh dA wx gx Fx ux (wVa dA xy wy cry ty ngy scy Cy lny (wWh dA wy gy Fy uy [])))))))) H := hP
  have hD : va_D A (wAr dA ar xR la ra sa qa (wVa dA xR wR crR tR ngR scR CR lnR (wWh dA wR gR FR uR (wWh dA la lg LB lub (wVa dA xx wx crx tx ngx scx Cx lnx (wWh dA wx gx Fx ux (wVa dA xy wy cry ty ngy scy Cy lny (wWh dA wy gy Fy uy [])))))))) := hD
  have hq57 : WR LB lub ((Nx * Ny) / PW 10 ((scx + scy) - (min (scx + scy) (max ws (max scx scy))))) := hq57
  refine lv_aload_n hx hb dAr_product_60 rfl (lv_at hl 2 rfl) ?_
  refine lv_aload_n hx hb dAr_product_61 rfl (lv_at hl 2 rfl) ?_
  refine va_get (D := (dC, dI)) (ci := 0) (v := .ref la) (C := "MacroReckoner$Arithmetic") (T := TAr) (N := 5) hx hb hts inAr hown hK hP 0 rfl rfl 1 (by decide) (hts _ wt1_143) (fun _ h9 => h9) rfl dAr_product_62 ?_
  refine lv_aload_n hx hb dAr_product_65 rfl (lv_at hl 3 rfl) ?_
  refine va_getN (D := (dC, dI)) (ci := 4) (v := .int (iI ngx)) (C := "MacroReckoner$Value") (T := TVa) (N := 6) hx hb hts inVa hown hK hP 7 rfl rfl 2 (by decide) (va_Nw.use rfl (hX.1 ("MacroReckoner$Arithmetic", 31, "MacroReckoner$Value", "negative", "Z", "MacroReckoner") (List.mem_of_getElem? (i := 13) rfl))) (fun _ h9 => h9) rfl dAr_product_66 ?_
  refine lv_aload_n hx hb dAr_product_69 rfl (lv_at hl 4 rfl) ?_
  refine va_getN (D := (dC, dI)) (ci := 4) (v := .int (iI ngy)) (C := "MacroReckoner$Value") (T := TVa) (N := 6) hx hb hts inVa hown hK hP 11 rfl rfl 2 (by decide) (va_Nw.use rfl (hX.1 ("MacroReckoner$Arithmetic", 31, "MacroReckoner$Value", "negative", "Z", "MacroReckoner") (List.mem_of_getElem? (i := 13) rfl))) (fun _ h9 => h9) rfl dAr_product_70 ?_
  refine iv_icmp_eq (tgt := 80) hx hb dAr_product_73 (by decide) ⟨by omega, by omega⟩ ⟨by omega, by omega⟩ (fun hc73 => ?_) (fun hc73 => ?_)
  · refine lv_iconst (v := iI 0) hx hb dAr_product_80 rfl ?_
    refine lv_iload hx hb dAr_product_81 (lv_at hl 0 rfl) ?_
    refine cv_i (va_runV (C := "MacroReckoner$Arithmetic") (As := [.ref la, .int (iI 0), .int (iI (min (scx + scy) (max ws (max scx scy))))]) (rest := []) ⟨hx, hb, hml, hown, hts⟩ (cAr_finish l dC dI dA dS ar la ra sa qa xR wR crR tR ngR scR CR lnR gR FR uR la lg LB lub (Nx * Ny / PW 10 (scx + scy - (min (scx + scy) (max ws (max scx scy))))) 0 (min (scx + scy) (max ws (max scx scy))) (by exact hq57) (by omega) H.size) (cwV 3 hts (gdV wt3_83 wt3_85 ws2_0 wt1_6 wt3_86) rfl rfl rfl ⟨rfl, by decide, by decide, by decide +kernel⟩ ⟨by decide, by decide⟩) (preV (q := ("MacroReckoner$Arithmetic", TAr, 5)) hK hP hD hS hA (XC_ok dS) hX [0, 1, 2, 3, 4, 5, 6] rfl rfl 0 rfl rfl) rfl rfl hl.1 rfl (lv_room (Nat.le_of_ble_eq_true rfl)) dAr_product_83 ⟨Nat.zero_le _, Nat.zero_le _⟩) hP hD hS hA [0, 1, 2, 3, 4, 5, 6] [7, 8, 9, 10, 11, 12, 13, 14] rfl (fun v_ => wAr dA ar xR la ra sa qa (wVa dA xR wR crR v_.1 v_.2.1 v_.2.2.1 CR v_.2.2.2.1 (wWh dA wR gR v_.2.2.2.2.1 v_.2.2.2.2.2 (wWh dA la lg LB lub (wVa dA xx wx crx tx ngx scx Cx lnx (wWh dA wx gx Fx ux (wVa dA xy wy cry ty ngy scy Cy lny (wWh dA wy gy Fy uy [])))))))) (fun _ => rfl) (wVa dA xx wx crx tx ngx scx Cx lnx (wWh dA wx gx Fx ux (wVa dA xy wy cry ty ngy scy Cy lny (wWh dA wy gy Fy uy [])))) rfl (fun _ => rfl) [ar, xR, crR, wR, gR, la, lg, xx, crx, wx, gx, xy, cry, wy, gy] rfl (fun _ => rfl) (fun _ => rfl) (fun r83 u_ H locs hq83 hP hD hS => ?_)
    obtain ⟨t1_83, ng1_83, sc1_83, ln1_83, F1_83, u1_83⟩ := u_
    have hP : va_P (dC, dI) vwCl (wAr dA ar xR la ra sa qa (wVa dA xR wR crR t1_83 ng1_83 sc1_83 CR ln1_83 (wWh dA wR gR F1_83 u1_83 (wWh dA la lg LB lub (wVa dA xx wx crx tx ngx scx Cx lnx (wWh dA wx gx Fx ux (wVa dA xy wy cry ty ngy scy Cy lny (wWh dA wy gy Fy uy [])))))))) H := hP
    have hD : va_D A (wAr dA ar xR la ra sa qa (wVa dA xR wR crR t1_83 ng1_83 sc1_83 CR ln1_83 (wWh dA wR gR F1_83 u1_83 (wWh dA la lg LB lub (wVa dA xx wx crx tx ngx scx Cx lnx (wWh dA wx gx Fx ux (wVa dA xy wy cry ty ngy scy Cy lny (wWh dA wy gy Fy uy [])))))))) := hD
    have hq83 : RES r83 (sg 0 (Nx * Ny / PW 10 (scx + scy - (min (scx + scy) (max ws (max scx scy)))))) (min (scx + scy) (max ws (max scx scy))) t1_83 ng1_83 sc1_83 ln1_83 F1_83 u1_83 := hq83
    exact rt_i hx hb hr hlocks hK hS dAr_product_86 (t1_83, ng1_83, sc1_83, ln1_83, F1_83, u1_83, LB, lub) hP hD (show RES r83 (sg (if ngx = ngy then 0 else 1) (Nx * Ny / PW 10 (scx + scy - min (scx + scy) (max ws (max scx scy))))) (min (scx + scy) (max ws (max scx scy))) t1_83 ng1_83 sc1_83 ln1_83 F1_83 u1_83 from by first | (rw [if_pos hc73]; exact hq83) | (rw [if_neg hc73]; exact hq83))
  · refine lv_iconst (v := iI 1) hx hb dAr_product_76 rfl ?_
    refine lv_goto (tgt := 81) hx hb dAr_product_77 (by decide) ?_
    refine lv_iload hx hb dAr_product_81 (lv_at hl 0 rfl) ?_
    refine cv_i (va_runV (C := "MacroReckoner$Arithmetic") (As := [.ref la, .int (iI 1), .int (iI (min (scx + scy) (max ws (max scx scy))))]) (rest := []) ⟨hx, hb, hml, hown, hts⟩ (cAr_finish l dC dI dA dS ar la ra sa qa xR wR crR tR ngR scR CR lnR gR FR uR la lg LB lub (Nx * Ny / PW 10 (scx + scy - (min (scx + scy) (max ws (max scx scy))))) 1 (min (scx + scy) (max ws (max scx scy))) (by exact hq57) (by omega) H.size) (cwV 3 hts (gdV wt3_83 wt3_85 ws2_0 wt1_6 wt3_86) rfl rfl rfl ⟨rfl, by decide, by decide, by decide +kernel⟩ ⟨by decide, by decide⟩) (preV (q := ("MacroReckoner$Arithmetic", TAr, 5)) hK hP hD hS hA (XC_ok dS) hX [0, 1, 2, 3, 4, 5, 6] rfl rfl 0 rfl rfl) rfl rfl hl.1 rfl (lv_room (Nat.le_of_ble_eq_true rfl)) dAr_product_83 ⟨Nat.zero_le _, Nat.zero_le _⟩) hP hD hS hA [0, 1, 2, 3, 4, 5, 6] [7, 8, 9, 10, 11, 12, 13, 14] rfl (fun v_ => wAr dA ar xR la ra sa qa (wVa dA xR wR crR v_.1 v_.2.1 v_.2.2.1 CR v_.2.2.2.1 (wWh dA wR gR v_.2.2.2.2.1 v_.2.2.2.2.2 (wWh dA la lg LB lub (wVa dA xx wx crx tx ngx scx Cx lnx (wWh dA wx gx Fx ux (wVa dA xy wy cry ty ngy scy Cy lny (wWh dA wy gy Fy uy [])))))))) (fun _ => rfl) (wVa dA xx wx crx tx ngx scx Cx lnx (wWh dA wx gx Fx ux (wVa dA xy wy cry ty ngy scy Cy lny (wWh dA wy gy Fy uy [])))) rfl (fun _ => rfl) [ar, xR, crR, wR, gR, la, lg, xx, crx, wx, gx, xy, cry, wy, gy] rfl (fun _ => rfl) (fun _ => rfl) (fun r83 u_ H locs hq83 hP hD hS => ?_)
    obtain ⟨t1_83, ng1_83, sc1_83, ln1_83, F1_83, u1_83⟩ := u_
    have hP : va_P (dC, dI) vwCl (wAr dA ar xR la ra sa qa (wVa dA xR wR crR t1_83 ng1_83 sc1_83 CR ln1_83 (wWh dA wR gR F1_83 u1_83 (wWh dA la lg LB lub (wVa dA xx wx crx tx ngx scx Cx lnx (wWh dA wx gx Fx ux (wVa dA xy wy cry ty ngy scy Cy lny (wWh dA wy gy Fy uy [])))))))) H := hP
    have hD : va_D A (wAr dA ar xR la ra sa qa (wVa dA xR wR crR t1_83 ng1_83 sc1_83 CR ln1_83 (wWh dA wR gR F1_83 u1_83 (wWh dA la lg LB lub (wVa dA xx wx crx tx ngx scx Cx lnx (wWh dA wx gx Fx ux (wVa dA xy wy cry ty ngy scy Cy lny (wWh dA wy gy Fy uy [])))))))) := hD
    have hq83 : RES r83 (sg 1 (Nx * Ny / PW 10 (scx + scy - (min (scx + scy) (max ws (max scx scy)))))) (min (scx + scy) (max ws (max scx scy))) t1_83 ng1_83 sc1_83 ln1_83 F1_83 u1_83 := hq83
    exact rt_i hx hb hr hlocks hK hS dAr_product_86 (t1_83, ng1_83, sc1_83, ln1_83, F1_83, u1_83, LB, lub) hP hD (show RES r83 (sg (if ngx = ngy then 0 else 1) (Nx * Ny / PW 10 (scx + scy - min (scx + scy) (max ws (max scx scy))))) (min (scx + scy) (max ws (max scx scy))) t1_83 ng1_83 sc1_83 ln1_83 F1_83 u1_83 from by first | (rw [if_pos hc73]; exact hq83) | (rw [if_neg hc73]; exact hq83))

theorem dAr_quotient_0 : decode prog_2_method_5_code 0 = .ok (.aload_n 2, 1) := by decide +kernel
theorem dAr_quotient_1 : decode prog_2_method_5_code 1 = .ok (.getfield 69, 3) := by decide +kernel
theorem dAr_quotient_4 : decode prog_2_method_5_code 4 = .ok (.invokevirtual 80, 3) := by decide +kernel
theorem dAr_quotient_7 : decode prog_2_method_5_code 7 = .ok (.ifCond .eq 6, 3) := by decide +kernel
theorem dAr_quotient_10 : decode prog_2_method_5_code 10 = .ok (.bipush (-5), 2) := by decide +kernel
theorem dAr_quotient_12 : decode prog_2_method_5_code 12 = .ok (.ireturn, 1) := by decide +kernel
theorem dAr_quotient_13 : decode prog_2_method_5_code 13 = .ok (.aload_n 0, 1) := by decide +kernel
theorem dAr_quotient_14 : decode prog_2_method_5_code 14 = .ok (.aload_n 1, 1) := by decide +kernel
theorem dAr_quotient_15 : decode prog_2_method_5_code 15 = .ok (.aload_n 2, 1) := by decide +kernel
theorem dAr_quotient_16 : decode prog_2_method_5_code 16 = .ok (.iload_n 3, 1) := by decide +kernel
theorem dAr_quotient_17 : decode prog_2_method_5_code 17 = .ok (.invokevirtual 84, 3) := by decide +kernel
theorem dAr_quotient_20 : decode prog_2_method_5_code 20 = .ok (.aload_n 0, 1) := by decide +kernel
theorem dAr_quotient_21 : decode prog_2_method_5_code 21 = .ok (.getfield 12, 3) := by decide +kernel
theorem dAr_quotient_24 : decode prog_2_method_5_code 24 = .ok (.aload_n 0, 1) := by decide +kernel
theorem dAr_quotient_25 : decode prog_2_method_5_code 25 = .ok (.getfield 18, 3) := by decide +kernel
theorem dAr_quotient_28 : decode prog_2_method_5_code 28 = .ok (.aload_n 0, 1) := by decide +kernel
theorem dAr_quotient_29 : decode prog_2_method_5_code 29 = .ok (.getfield 24, 3) := by decide +kernel
theorem dAr_quotient_32 : decode prog_2_method_5_code 32 = .ok (.invokevirtual 88, 3) := by decide +kernel
theorem dAr_quotient_35 : decode prog_2_method_5_code 35 = .ok (.aload_n 0, 1) := by decide +kernel
theorem dAr_quotient_36 : decode prog_2_method_5_code 36 = .ok (.aload_n 0, 1) := by decide +kernel
theorem dAr_quotient_37 : decode prog_2_method_5_code 37 = .ok (.getfield 24, 3) := by decide +kernel
theorem dAr_quotient_40 : decode prog_2_method_5_code 40 = .ok (.aload_n 1, 1) := by decide +kernel
theorem dAr_quotient_41 : decode prog_2_method_5_code 41 = .ok (.getfield 31, 3) := by decide +kernel
theorem dAr_quotient_44 : decode prog_2_method_5_code 44 = .ok (.aload_n 2, 1) := by decide +kernel
theorem dAr_quotient_45 : decode prog_2_method_5_code 45 = .ok (.getfield 31, 3) := by decide +kernel
theorem dAr_quotient_48 : decode prog_2_method_5_code 48 = .ok (.if_icmp .eq 7, 3) := by decide +kernel
theorem dAr_quotient_51 : decode prog_2_method_5_code 51 = .ok (.iconst 1, 1) := by decide +kernel
theorem dAr_quotient_52 : decode prog_2_method_5_code 52 = .ok (.goto 4, 3) := by decide +kernel
theorem dAr_quotient_55 : decode prog_2_method_5_code 55 = .ok (.iconst 0, 1) := by decide +kernel
theorem dAr_quotient_56 : decode prog_2_method_5_code 56 = .ok (.iload_n 3, 1) := by decide +kernel
theorem dAr_quotient_57 : decode prog_2_method_5_code 57 = .ok (.invokevirtual 49, 3) := by decide +kernel
theorem dAr_quotient_60 : decode prog_2_method_5_code 60 = .ok (.ireturn, 1) := by decide +kernel
abbrev qAr_quotient (dC : Nat → ClassId) (dI : Nat → Nat → Nat) (dA : Nat → ClassId) (dS : Nat → Nat) (ar : Nat) (la : Nat) (ra : Nat) (sa : Nat) (qa : Nat) (xR : Nat) (wR : Nat) (crR : Nat) (tR : Int) (ngR : Int) (scR : Int) (CR : Int → Int) (lnR : Int) (gR : Nat) (FR : Int → Int) (uR : Int) (lg : Nat) (LF : Int → Int) (lu : Int) (rg : Nat) (RF : Int → Int) (ru : Int) (qg : Nat) (QF : Int → Int) (qu : Int) (xx : Nat) (wx : Nat) (crx : Nat) (tx : Int) (ngx : Int) (scx : Int) (Cx : Int → Int) (lnx : Int) (gx : Nat) (Fx : Int → Int) (ux : Int) (Nx : Int) (xy : Nat) (wy : Nat) (cry : Nat) (ty : Int) (ngy : Int) (scy : Int) (Cy : Int → Int) (lny : Int) (gy : Nat) (Fy : Int → Int) (uy : Int) (Ny : Int) (ws : Int) (A : Nat → Prop) : Array Value → State → Outcome → State → Prop := QI (dC, dI) vwCl (tyA dA) (fun (r : Int) (v_ : Int × Int × Int × Int × (Int → Int) × Int × (Int → Int) × Int × (Int → Int) × Int × (Int → Int) × Int) => (Ny = 0 ∧ r = -5) ∨ (Ny ≠ 0 ∧ RES r (sg (if ngx = ngy then 0 else 1) (Nx * PW 10 (max (ws + scy - scx) 0) / (Ny * PW 10 (max (-(ws + scy - scx)) 0)))) ws v_.1 v_.2.1 v_.2.2.1 v_.2.2.2.1 v_.2.2.2.2.1 v_.2.2.2.2.2.1)) (fun (v_ : Int × Int × Int × Int × (Int → Int) × Int × (Int → Int) × Int × (Int → Int) × Int × (Int → Int) × Int) => wAr dA ar xR la ra sa qa (wVa dA xR wR crR v_.1 v_.2.1 v_.2.2.1 CR v_.2.2.2.1 (wWh dA wR gR v_.2.2.2.2.1 v_.2.2.2.2.2.1 (wWh dA la lg v_.2.2.2.2.2.2.1 v_.2.2.2.2.2.2.2.1 (wWh dA ra rg v_.2.2.2.2.2.2.2.2.1 v_.2.2.2.2.2.2.2.2.2.1 (wWh dA qa qg v_.2.2.2.2.2.2.2.2.2.2.1 v_.2.2.2.2.2.2.2.2.2.2.2 (wVa dA xx wx crx tx ngx scx Cx lnx (wWh dA wx gx Fx ux (wVa dA xy wy cry ty ngy scy Cy lny (wWh dA wy gy Fy uy [])))))))))) A
abbrev rmAr_quotient : Room := { frames := 4, cells := 0, slots := 0, locals := 127 }
set_option maxRecDepth 100000 in
set_option maxHeartbeats 1000000 in
theorem cAr_quotient (l : Launch) (dC : Nat → ClassId) (dI : Nat → Nat → Nat) (dA : Nat → ClassId) (dS : Nat → Nat) (ar : Nat) (la : Nat) (ra : Nat) (sa : Nat) (qa : Nat) (xR : Nat) (wR : Nat) (crR : Nat) (tR : Int) (ngR : Int) (scR : Int) (CR : Int → Int) (lnR : Int) (gR : Nat) (FR : Int → Int) (uR : Int) (lg : Nat) (LF : Int → Int) (lu : Int) (rg : Nat) (RF : Int → Int) (ru : Int) (qg : Nat) (QF : Int → Int) (qu : Int) (xx : Nat) (wx : Nat) (crx : Nat) (tx : Int) (ngx : Int) (scx : Int) (Cx : Int → Int) (lnx : Int) (gx : Nat) (Fx : Int → Int) (ux : Int) (Nx : Int) (xy : Nat) (wy : Nat) (cry : Nat) (ty : Int) (ngy : Int) (scy : Int) (Cy : Int → Int) (lny : Int) (gy : Nat) (Fy : Int → Int) (uy : Int) (Ny : Int) (ws : Int) (hVx : VV tx ngx scx lnx Cx Nx) (hWx : WR Fx ux Nx) (hVy : VV ty ngy scy lny Cy Ny) (hWy : WR Fy uy Ny) (hws : 0 ≤ ws ∧ ws ≤ 40) (sz : Nat) : Met l yAr_quotient wsAr_quotient rmAr_quotient (PC (dC, dI) vwCl (tyA dA) (XC dS) [.ref ar, .ref xx, .ref xy, .int (iI ws)] (wAr dA ar xR la ra sa qa (wVa dA xR wR crR tR ngR scR CR lnR (wWh dA wR gR FR uR (wWh dA la lg LF lu (wWh dA ra rg RF ru (wWh dA qa qg QF qu (wVa dA xx wx crx tx ngx scx Cx lnx (wWh dA wx gx Fx ux (wVa dA xy wy cry ty ngy scy Cy lny (wWh dA wy gy Fy uy [])))))))))) sz) (qAr_quotient dC dI dA dS ar la ra sa qa xR wR crR tR ngR scR CR lnR gR FR uR lg LF lu rg RF ru qg QF qu xx wx crx tx ngx scx Cx lnx gx Fx ux Nx xy wy cry ty ngy scy Cy lny gy Fy uy Ny ws (va_A (wAr dA ar xR la ra sa qa (wVa dA xR wR crR tR ngR scR CR lnR (wWh dA wR gR FR uR (wWh dA la lg LF lu (wWh dA ra rg RF ru (wWh dA qa qg QF qu (wVa dA xx wx crx tx ngx scx Cx lnx (wWh dA wx gx Fx ux (wVa dA xy wy cry ty ngy scy Cy lny (wWh dA wy gy Fy uy [])))))))))) sz)) 0 0 (va_A (wAr dA ar xR la ra sa qa (wVa dA xR wR crR tR ngR scR CR lnR (wWh dA wR gR FR uR (wWh dA la lg LF lu (wWh dA ra rg RF ru (wWh dA qa qg QF qu (wVa dA xx wx crx tx ngx scx Cx lnx (wWh dA wx gx Fx ux (wVa dA xy wy cry ty ngy scy Cy lny (wWh dA wy gy Fy uy [])))))))))) sz) := by
  refine met_of (cc := prog_2_method_5_code) (maxL := 4) (ret := (some .int)) (Qc := qAr_quotient dC dI dA dS ar la ra sa qa xR wR crR tR ngR scR CR lnR gR FR uR lg LF lu rg RF ru qg QF qu xx wx crx tx ngx scx Cx lnx gx Fx ux Nx xy wy cry ty ngy scy Cy lny gy Fy uy Ny ws) (XC_ok dS) (by decide) rfl (Nat.le_of_ble_eq_true rfl) ?_
  intro p e s m below meth c ls A hx hb hr hml hown hts hlocks hnm hK hP hD hA hX hS hl
  have hl : lv_has ls 4 [(0, .ref ar), (1, .ref xx), (2, .ref xy), (3, .int (iI ws))] := hl
  have hown : s.vm.findClass "MacroReckoner$Arithmetic" = some m.cls := hown
  obtain ⟨H, hH⟩ : ∃ H : Heap, H = s.heap := ⟨_, rfl⟩
  obtain ⟨locs, hlo⟩ : ∃ L : List Loc, L = [] := ⟨_, rfl⟩
  have hP : va_P (dC, dI) vwCl (wAr dA ar xR la ra sa qa (wVa dA xR wR crR tR ngR scR CR lnR (wWh dA wR gR FR uR (wWh dA la lg LF lu (wWh dA ra rg RF ru (wWh dA qa qg QF qu (wVa dA xx wx crx tx ngx scx Cx lnx (wWh dA wx gx Fx ux (wVa dA xy wy cry ty ngy scy Cy lny (wWh dA wy gy Fy uy [])))))))))) H := hH ▸ hP
  have hS : va_S A s.heap H locs := by rw [hH, hlo]; exact hS
  suffices hgo : W p l e rmAr_quotient s m [.ref ar, .ref xx, .ref xy, .int (iI ws)].toArray below meth c H locs 0 0 (MQ below (qAr_quotient dC dI dA dS ar la ra sa qa xR wR crR tR ngR scR CR lnR gR FR uR lg LF lu rg RF ru qg QF qu xx wx crx tx ngx scx Cx lnx gx Fx ux Nx xy wy cry ty ngy scy Cy lny gy Fy uy Ny ws A) [.ref ar, .ref xx, .ref xy, .int (iI ws)].toArray s 0 0 A) (F0 m 0 ls []) by rw [hH, hlo] at hgo; exact hgo
  clear hH hlo
  have hVx0 := hVx
  have hVy0 := hVy
  obtain ⟨-, hngx, hscx, -, -, -, -, hx3, hx4⟩ := hVx
  have hNx0 := (WR_bd hWx).1
  obtain ⟨-, hngy, hscy, -, -, -, -, hy3, hy4⟩ := hVy
  have hNy0 := (WR_bd hWy).1
  refine lv_aload_n hx hb dAr_quotient_0 rfl (lv_at hl 2 rfl) ?_
  refine va_getN (D := (dC, dI)) (ci := 4) (v := .ref wy) (C := "MacroReckoner$Value") (T := TVa) (N := 6) hx hb hts inVa hown hK hP 15 rfl rfl 1 (by decide) (va_Nw.use rfl (hX.1 ("MacroReckoner$Arithmetic", 69, "MacroReckoner$Value", "whole", "LMacroReckoner$Whole;", "MacroReckoner") (List.mem_of_getElem? (i := 10) rfl))) (fun _ h9 => h9) rfl dAr_quotient_1 ?_
  refine cv_i (va_runV (C := "MacroReckoner$Whole") (As := []) (rest := []) ⟨hx, hb, hml, hown, hts⟩ (cWh_isZero l dC dI dA wy gy Fy uy Ny (by exact hWy) H.size) (cwV 0 hts (gdV wt3_126 wt3_23 wt3_24 wt1_5 wt3_25) rfl rfl rfl ⟨rfl, by decide, by decide, by decide +kernel⟩ ⟨by decide, by decide⟩) (preV (q := ("MacroReckoner$Whole", TWh, 2)) hK hP hD hS hA XN_ok trivial [17, 18] rfl rfl 0 rfl rfl) rfl rfl hl.1 rfl (lv_room (Nat.le_of_ble_eq_true rfl)) dAr_quotient_4 ⟨Nat.zero_le _, Nat.zero_le _⟩) hP hD hS hA [17, 18] [0, 1, 2, 3, 4, 5, 6, 7, 8, 9, 10, 11, 12, 13, 14, 15, 16] rfl (fun v_ => wAr dA ar xR la ra sa qa (wVa dA xR wR crR tR ngR scR CR lnR (wWh dA wR gR FR uR (wWh dA la lg LF lu (wWh dA ra rg RF ru (wWh dA qa qg QF qu (wVa dA xx wx crx tx ngx scx Cx lnx (wWh dA wx gx Fx ux (wVa dA xy wy cry ty ngy scy Cy lny (wWh dA wy gy Fy uy [])))))))))) (fun _ => rfl) (wAr dA ar xR la ra sa qa (wVa dA xR wR crR tR ngR scR CR lnR (wWh dA wR gR FR uR (wWh dA la lg LF lu (wWh dA ra rg RF ru (wWh dA qa qg QF qu (wVa dA xx wx crx tx ngx scx Cx lnx (wWh dA wx gx Fx ux (wVa dA xy wy cry ty ngy scy Cy lny []))))))))) rfl (fun _ => rfl) [ar, xR, crR, wR, gR, la, lg, ra, rg, qa, qg, xx, crx, wx, gx, xy, cry, wy, gy] rfl (fun _ => rfl) (fun _ => rfl) (fun r4 u_ H locs hq4 hP hD hS => ?_)
  have hP : va_P (dC, dI) vwCl (wAr dA ar xR la ra sa qa (wVa dA xR wR crR tR ngR scR CR lnR (wWh dA wR gR FR uR (wWh dA la lg LF lu (wWh dA ra rg RF ru (wWh dA qa qg QF qu (wVa dA xx wx crx tx ngx scx Cx lnx (wWh dA wx gx Fx ux (wVa dA xy wy cry ty ngy scy Cy lny (wWh dA wy gy Fy uy [])))))))))) H := hP
  have hD : va_D A (wAr dA ar xR la ra sa qa (wVa dA xR wR crR tR ngR scR CR lnR (wWh dA wR gR FR uR (wWh dA la lg LF lu (wWh dA ra rg RF ru (wWh dA qa qg QF qu (wVa dA xx wx crx tx ngx scx Cx lnx (wWh dA wx gx Fx ux (wVa dA xy wy cry ty ngy scy Cy lny (wWh dA wy gy Fy uy [])))))))))) := hD
  have hq4 : (r4 = 1 ∧ Ny = 0) ∨ (r4 = 0 ∧ Ny ≠ 0) := hq4
  refine iv_if_eq (tgt := 13) hx hb dAr_quotient_7 (by decide) ⟨by omega, by omega⟩ (fun hc7 => ?_) (fun hc7 => ?_)
  · refine lv_aload_n hx hb dAr_quotient_13 rfl (lv_at hl 0 rfl) ?_
    refine lv_aload_n hx hb dAr_quotient_14 rfl (lv_at hl 1 rfl) ?_
    refine lv_aload_n hx hb dAr_quotient_15 rfl (lv_at hl 2 rfl) ?_
    refine lv_iload_n hx hb dAr_quotient_16 rfl (lv_at hl 3 rfl) ?_
    refine cv_v (va_runV (C := "MacroReckoner$Arithmetic") (As := [.ref xx, .ref xy, .int (iI ws)]) (rest := []) ⟨hx, hb, hml, hown, hts⟩ (cAr_align l dC dI dA dS ar la ra sa qa xR lg LF lu rg RF ru xx wx crx tx ngx scx Cx lnx gx Fx ux Nx xy wy cry ty ngy scy Cy lny gy Fy uy Ny ws (by exact hVx0) (by exact hWx) (by exact hVy0) (by exact hWy) (by exact hws) H.size) (cwV 3 hts (gdV wt3_127 wt3_129 ws2_2 wt1_6 wt3_130) rfl rfl rfl ⟨rfl, by decide, by decide, by decide +kernel⟩ ⟨by decide, by decide⟩) (preV (q := ("MacroReckoner$Arithmetic", TAr, 5)) hK hP hD hS hA (XC_ok dS) hX [0, 5, 6, 7, 8, 11, 12, 13, 14, 15, 16, 17, 18] rfl rfl 0 rfl rfl) rfl rfl hl.1 rfl (lv_room (Nat.le_of_ble_eq_true rfl)) dAr_quotient_17 ⟨Nat.zero_le _, Nat.zero_le _⟩) hP hD hS hA [0, 5, 6, 7, 8, 11, 12, 13, 14, 15, 16, 17, 18] [1, 2, 3, 4, 9, 10] rfl (fun v_ => wAr dA ar xR la ra sa qa (wVa dA xR wR crR tR ngR scR CR lnR (wWh dA wR gR FR uR (wWh dA la lg v_.1 v_.2.1 (wWh dA ra rg v_.2.2.1 v_.2.2.2 (wWh dA qa qg QF qu (wVa dA xx wx crx tx ngx scx Cx lnx (wWh dA wx gx Fx ux (wVa dA xy wy cry ty ngy scy Cy lny (wWh dA wy gy Fy uy [])))))))))) (fun _ => rfl) (wVa dA xR wR crR tR ngR scR CR lnR (wWh dA wR gR FR uR (wWh dA qa qg QF qu []))) rfl (fun _ => rfl) [ar, xR, crR, wR, gR, la, lg, ra, rg, qa, qg, xx, crx, wx, gx, xy, cry, wy, gy] rfl (fun _ => rfl) (fun _ => rfl) (fun u_ H locs hq17 hP hD hS => ?_)
    obtain ⟨LA, lua, RA, rua⟩ := u_
    have hP : va_P (dC, dI) vwCl (wAr dA ar xR la ra sa qa (wVa dA xR wR crR tR ngR scR CR lnR (wWh dA wR gR FR uR (wWh dA la lg LA lua (wWh dA ra rg RA rua (wWh dA qa qg QF qu (wVa dA xx wx crx tx ngx scx Cx lnx (wWh dA wx gx Fx ux (wVa dA xy wy cry ty ngy scy Cy lny (wWh dA wy gy Fy uy [])))))))))) H := hP
    have hD : va_D A (wAr dA ar xR la ra sa qa (wVa dA xR wR crR tR ngR scR CR lnR (wWh dA wR gR FR uR (wWh dA la lg LA lua (wWh dA ra rg RA rua (wWh dA qa qg QF qu (wVa dA xx wx crx tx ngx scx Cx lnx (wWh dA wx gx Fx ux (wVa dA xy wy cry ty ngy scy Cy lny (wWh dA wy gy Fy uy [])))))))))) := hD
    have hq17 : WR LA lua (Nx * PW 10 (max (ws + scy - scx) 0)) ∧ WR RA rua (Ny * PW 10 (max (-(ws + scy - scx)) 0)) := hq17
    refine lv_aload_n hx hb dAr_quotient_20 rfl (lv_at hl 0 rfl) ?_
    refine va_get (D := (dC, dI)) (ci := 0) (v := .ref la) (C := "MacroReckoner$Arithmetic") (T := TAr) (N := 5) hx hb hts inAr hown hK hP 0 rfl rfl 1 (by decide) (hts _ wt1_143) (fun _ h9 => h9) rfl dAr_quotient_21 ?_
    refine lv_aload_n hx hb dAr_quotient_24 rfl (lv_at hl 0 rfl) ?_
    refine va_get (D := (dC, dI)) (ci := 0) (v := .ref ra) (C := "MacroReckoner$Arithmetic") (T := TAr) (N := 5) hx hb hts inAr hown hK hP 0 rfl rfl 2 (by decide) (hts _ wt1_144) (fun _ h9 => h9) rfl dAr_quotient_25 ?_
    refine lv_aload_n hx hb dAr_quotient_28 rfl (lv_at hl 0 rfl) ?_
    refine va_get (D := (dC, dI)) (ci := 0) (v := .ref qa) (C := "MacroReckoner$Arithmetic") (T := TAr) (N := 5) hx hb hts inAr hown hK hP 0 rfl rfl 4 (by decide) (hts _ wt1_146) (fun _ h9 => h9) rfl dAr_quotient_29 ?_
    refine cv_v (va_runV (C := "MacroReckoner$Whole") (As := [.ref ra, .ref qa]) (rest := []) ⟨hx, hb, hml, hown, hts⟩ (cWh_divideBy l dC dI dA dS la lg LA lua (Nx * PW 10 (max (ws + scy - scx) 0)) ra rg RA rua (Ny * PW 10 (max (-(ws + scy - scx)) 0)) qa qg QF qu (by exact hq17.1) (by exact hq17.2) (by exact Int.mul_pos (by omega) (PW_pos (by decide) _)) (by exact (w60 hNx0 hx4 (by omega) (by omega)).2.2.1) H.size) (cwV 2 hts (gdV wt3_131 wt3_132 wt3_133 wt1_5 wt3_134) rfl rfl rfl ⟨rfl, by decide, by decide, by decide +kernel⟩ ⟨by decide, by decide⟩) (preV (q := ("MacroReckoner$Whole", TWh, 2)) hK hP hD hS hA (XC_ok dS) hX [5, 6, 7, 8, 9, 10] rfl rfl 0 rfl rfl) rfl rfl hl.1 rfl (lv_room (Nat.le_of_ble_eq_true rfl)) dAr_quotient_32 ⟨Nat.zero_le _, Nat.zero_le _⟩) hP hD hS hA [5, 6, 7, 8, 9, 10] [0, 1, 2, 3, 4, 11, 12, 13, 14, 15, 16, 17, 18] rfl (fun v_ => wAr dA ar xR la ra sa qa (wVa dA xR wR crR tR ngR scR CR lnR (wWh dA wR gR FR uR (wWh dA la lg v_.1 v_.2.1 (wWh dA ra rg v_.2.2.1 v_.2.2.2.1 (wWh dA qa qg v_.2.2.2.2.1 v_.2.2.2.2.2 (wVa dA xx wx crx tx ngx scx Cx lnx (wWh dA wx gx Fx ux (wVa dA xy wy cry ty ngy scy Cy lny (wWh dA wy gy Fy uy [])))))))))) (fun _ => rfl) (wAr dA ar xR la ra sa qa (wVa dA xR wR crR tR ngR scR CR lnR (wWh dA wR gR FR uR (wVa dA xx wx crx tx ngx scx Cx lnx (wWh dA wx gx Fx ux (wVa dA xy wy cry ty ngy scy Cy lny (wWh dA wy gy Fy uy []))))))) rfl (fun _ => rfl) [ar, xR, crR, wR, gR, la, lg, ra, rg, qa, qg, xx, crx, wx, gx, xy, cry, wy, gy] rfl (fun _ => rfl) (fun _ => rfl) (fun u_ H locs hq32 hP hD hS => ?_)
    obtain ⟨LB, lub, RB, rub, QB, qub⟩ := u_
    have hP : va_P (dC, dI) vwCl (wAr dA ar xR la ra sa qa (wVa dA xR wR crR tR ngR scR CR lnR (wWh dA wR gR FR uR (wWh dA la lg LB lub (wWh dA ra rg RB rub (wWh dA qa qg QB qub (wVa dA xx wx crx tx ngx scx Cx lnx (wWh dA wx gx Fx ux (wVa dA xy wy cry ty ngy scy Cy lny (wWh dA wy gy Fy uy [])))))))))) H := hP
    have hD : va_D A (wAr dA ar xR la ra sa qa (wVa dA xR wR crR tR ngR scR CR lnR (wWh dA wR gR FR uR (wWh dA la lg LB lub (wWh dA ra rg RB rub (wWh dA qa qg QB qub (wVa dA xx wx crx tx ngx scx Cx lnx (wWh dA wx gx Fx ux (wVa dA xy wy cry ty ngy scy Cy lny (wWh dA wy gy Fy uy [])))))))))) := hD
    have hq32 : WR LB lub ((Nx * PW 10 (max (ws + scy - scx) 0)) % (Ny * PW 10 (max (-(ws + scy - scx)) 0))) ∧ WR RB rub (Ny * PW 10 (max (-(ws + scy - scx)) 0)) ∧ WR QB qub ((Nx * PW 10 (max (ws + scy - scx) 0)) / (Ny * PW 10 (max (-(ws + scy - scx)) 0))) := hq32
    refine lv_aload_n hx hb dAr_quotient_35 rfl (lv_at hl 0 rfl) ?_
    refine lv_aload_n hx hb dAr_quotient_36 rfl (lv_at hl 0 rfl) ?_
    refine va_get (D := (dC, dI)) (ci := 0) (v := .ref qa) (C := "MacroReckoner$Arithmetic") (T := TAr) (N := 5) hx hb hts inAr hown hK hP 0 rfl rfl 4 (by decide) (hts _ wt1_146) (fun _ h9 => h9) rfl dAr_quotient_37 ?_
    refine lv_aload_n hx hb dAr_quotient_40 rfl (lv_at hl 1 rfl) ?_
    refine va_getN (D := (dC, dI)) (ci := 4) (v := .int (iI ngx)) (C := "MacroReckoner$Value") (T := TVa) (N := 6) hx hb hts inVa hown hK hP 11 rfl rfl 2 (by decide) (va_Nw.use rfl (hX.1 ("MacroReckoner$Arithmetic", 31, "MacroReckoner$Value", "negative", "Z", "MacroReckoner") (List.mem_of_getElem? (i := 13) rfl))) (fun _ h9 => h9) rfl dAr_quotient_41 ?_
    refine lv_aload_n hx hb dAr_quotient_44 rfl (lv_at hl 2 rfl) ?_
    refine va_getN (D := (dC, dI)) (ci := 4) (v := .int (iI ngy)) (C := "MacroReckoner$Value") (T := TVa) (N := 6) hx hb hts inVa hown hK hP 15 rfl rfl 2 (by decide) (va_Nw.use rfl (hX.1 ("MacroReckoner$Arithmetic", 31, "MacroReckoner$Value", "negative", "Z", "MacroReckoner") (List.mem_of_getElem? (i := 13) rfl))) (fun _ h9 => h9) rfl dAr_quotient_45 ?_
    refine iv_icmp_eq (tgt := 55) hx hb dAr_quotient_48 (by decide) ⟨by omega, by omega⟩ ⟨by omega, by omega⟩ (fun hc48 => ?_) (fun hc48 => ?_)
    · refine lv_iconst (v := iI 0) hx hb dAr_quotient_55 rfl ?_
      refine lv_iload_n hx hb dAr_quotient_56 rfl (lv_at hl 3 rfl) ?_
      refine cv_i (va_runV (C := "MacroReckoner$Arithmetic") (As := [.ref qa, .int (iI 0), .int (iI ws)]) (rest := []) ⟨hx, hb, hml, hown, hts⟩ (cAr_finish l dC dI dA dS ar la ra sa qa xR wR crR tR ngR scR CR lnR gR FR uR qa qg QB qub (Nx * PW 10 (max (ws + scy - scx) 0) / (Ny * PW 10 (max (-(ws + scy - scx)) 0))) 0 ws (by exact hq32.2.2) (by omega) H.size) (cwV 3 hts (gdV wt3_83 wt3_85 ws2_0 wt1_6 wt3_86) rfl rfl rfl ⟨rfl, by decide, by decide, by decide +kernel⟩ ⟨by decide, by decide⟩) (preV (q := ("MacroReckoner$Arithmetic", TAr, 5)) hK hP hD hS hA (XC_ok dS) hX [0, 1, 2, 3, 4, 9, 10] rfl rfl 0 rfl rfl) rfl rfl hl.1 rfl (lv_room (Nat.le_of_ble_eq_true rfl)) dAr_quotient_57 ⟨Nat.zero_le _, Nat.zero_le _⟩) hP hD hS hA [0, 1, 2, 3, 4, 9, 10] [5, 6, 7, 8, 11, 12, 13, 14, 15, 16, 17, 18] rfl (fun v_ => wAr dA ar xR la ra sa qa (wVa dA xR wR crR v_.1 v_.2.1 v_.2.2.1 CR v_.2.2.2.1 (wWh dA wR gR v_.2.2.2.2.1 v_.2.2.2.2.2 (wWh dA la lg LB lub (wWh dA ra rg RB rub (wWh dA qa qg QB qub (wVa dA xx wx crx tx ngx scx Cx lnx (wWh dA wx gx Fx ux (wVa dA xy wy cry ty ngy scy Cy lny (wWh dA wy gy Fy uy [])))))))))) (fun _ => rfl) (wWh dA la lg LB lub (wWh dA ra rg RB rub (wVa dA xx wx crx tx ngx scx Cx lnx (wWh dA wx gx Fx ux (wVa dA xy wy cry ty ngy scy Cy lny (wWh dA wy gy Fy uy [])))))) rfl (fun _ => rfl) [ar, xR, crR, wR, gR, la, lg, ra, rg, qa, qg, xx, crx, wx, gx, xy, cry, wy, gy] rfl (fun _ => rfl) (fun _ => rfl) (fun r57 u_ H locs hq57 hP hD hS => ?_)
      obtain ⟨t1_57, ng1_57, sc1_57, ln1_57, F1_57, u1_57⟩ := u_
      have hP : va_P (dC, dI) vwCl (wAr dA ar xR la ra sa qa (wVa dA xR wR crR t1_57 ng1_57 sc1_57 CR ln1_57 (wWh dA wR gR F1_57 u1_57 (wWh dA la lg LB lub (wWh dA ra rg RB rub (wWh dA qa qg QB qub (wVa dA xx wx crx tx ngx scx Cx lnx (wWh dA wx gx Fx ux (wVa dA xy wy cry ty ngy scy Cy lny (wWh dA wy gy Fy uy [])))))))))) H := hP
      have hD : va_D A (wAr dA ar xR la ra sa qa (wVa dA xR wR crR t1_57 ng1_57 sc1_57 CR ln1_57 (wWh dA wR gR F1_57 u1_57 (wWh dA la lg LB lub (wWh dA ra rg RB rub (wWh dA qa qg QB qub (wVa dA xx wx crx tx ngx scx Cx lnx (wWh dA wx gx Fx ux (wVa dA xy wy cry ty ngy scy Cy lny (wWh dA wy gy Fy uy [])))))))))) := hD
      have hq57 : RES r57 (sg 0 (Nx * PW 10 (max (ws + scy - scx) 0) / (Ny * PW 10 (max (-(ws + scy - scx)) 0)))) ws t1_57 ng1_57 sc1_57 ln1_57 F1_57 u1_57 := hq57
      exact rt_i hx hb hr hlocks hK hS dAr_quotient_60 (t1_57, ng1_57, sc1_57, ln1_57, F1_57, u1_57, LB, lub, RB, rub, QB, qub) hP hD (show (Ny = 0 ∧ r57 = -5) ∨ (Ny ≠ 0 ∧ RES r57 (sg (if ngx = ngy then 0 else 1) (Nx * PW 10 (max (ws + scy - scx) 0) / (Ny * PW 10 (max (-(ws + scy - scx)) 0)))) ws t1_57 ng1_57 sc1_57 ln1_57 F1_57 u1_57) from by refine Or.inr ⟨by omega, ?_⟩; first | (rw [if_pos hc48]; exact hq57) | (rw [if_neg hc48]; exact hq57))
    · refine lv_iconst (v := iI 1) hx hb dAr_quotient_51 rfl ?_
      refine lv_goto (tgt := 56) hx hb dAr_quotient_52 (by decide) ?_
      refine lv_iload_n hx hb dAr_quotient_56 rfl (lv_at hl 3 rfl) ?_
      refine cv_i (va_runV (C := "MacroReckoner$Arithmetic") (As := [.ref qa, .int (iI 1), .int (iI ws)]) (rest := []) ⟨hx, hb, hml, hown, hts⟩ (cAr_finish l dC dI dA dS ar la ra sa qa xR wR crR tR ngR scR CR lnR gR FR uR qa qg QB qub (Nx * PW 10 (max (ws + scy - scx) 0) / (Ny * PW 10 (max (-(ws + scy - scx)) 0))) 1 ws (by exact hq32.2.2) (by omega) H.size) (cwV 3 hts (gdV wt3_83 wt3_85 ws2_0 wt1_6 wt3_86) rfl rfl rfl ⟨rfl, by decide, by decide, by decide +kernel⟩ ⟨by decide, by decide⟩) (preV (q := ("MacroReckoner$Arithmetic", TAr, 5)) hK hP hD hS hA (XC_ok dS) hX [0, 1, 2, 3, 4, 9, 10] rfl rfl 0 rfl rfl) rfl rfl hl.1 rfl (lv_room (Nat.le_of_ble_eq_true rfl)) dAr_quotient_57 ⟨Nat.zero_le _, Nat.zero_le _⟩) hP hD hS hA [0, 1, 2, 3, 4, 9, 10] [5, 6, 7, 8, 11, 12, 13, 14, 15, 16, 17, 18] rfl (fun v_ => wAr dA ar xR la ra sa qa (wVa dA xR wR crR v_.1 v_.2.1 v_.2.2.1 CR v_.2.2.2.1 (wWh dA wR gR v_.2.2.2.2.1 v_.2.2.2.2.2 (wWh dA la lg LB lub (wWh dA ra rg RB rub (wWh dA qa qg QB qub (wVa dA xx wx crx tx ngx scx Cx lnx (wWh dA wx gx Fx ux (wVa dA xy wy cry ty ngy scy Cy lny (wWh dA wy gy Fy uy [])))))))))) (fun _ => rfl) (wWh dA la lg LB lub (wWh dA ra rg RB rub (wVa dA xx wx crx tx ngx scx Cx lnx (wWh dA wx gx Fx ux (wVa dA xy wy cry ty ngy scy Cy lny (wWh dA wy gy Fy uy [])))))) rfl (fun _ => rfl) [ar, xR, crR, wR, gR, la, lg, ra, rg, qa, qg, xx, crx, wx, gx, xy, cry, wy, gy] rfl (fun _ => rfl) (fun _ => rfl) (fun r57 u_ H locs hq57 hP hD hS => ?_)
      obtain ⟨t1_57, ng1_57, sc1_57, ln1_57, F1_57, u1_57⟩ := u_
      have hP : va_P (dC, dI) vwCl (wAr dA ar xR la ra sa qa (wVa dA xR wR crR t1_57 ng1_57 sc1_57 CR ln1_57 (wWh dA wR gR F1_57 u1_57 (wWh dA la lg LB lub (wWh dA ra rg RB rub (wWh dA qa qg QB qub (wVa dA xx wx crx tx ngx scx Cx lnx (wWh dA wx gx Fx ux (wVa dA xy wy cry ty ngy scy Cy lny (wWh dA wy gy Fy uy [])))))))))) H := hP
      have hD : va_D A (wAr dA ar xR la ra sa qa (wVa dA xR wR crR t1_57 ng1_57 sc1_57 CR ln1_57 (wWh dA wR gR F1_57 u1_57 (wWh dA la lg LB lub (wWh dA ra rg RB rub (wWh dA qa qg QB qub (wVa dA xx wx crx tx ngx scx Cx lnx (wWh dA wx gx Fx ux (wVa dA xy wy cry ty ngy scy Cy lny (wWh dA wy gy Fy uy [])))))))))) := hD
      have hq57 : RES r57 (sg 1 (Nx * PW 10 (max (ws + scy - scx) 0) / (Ny * PW 10 (max (-(ws + scy - scx)) 0)))) ws t1_57 ng1_57 sc1_57 ln1_57 F1_57 u1_57 := hq57
      exact rt_i hx hb hr hlocks hK hS dAr_quotient_60 (t1_57, ng1_57, sc1_57, ln1_57, F1_57, u1_57, LB, lub, RB, rub, QB, qub) hP hD (show (Ny = 0 ∧ r57 = -5) ∨ (Ny ≠ 0 ∧ RES r57 (sg (if ngx = ngy then 0 else 1) (Nx * PW 10 (max (ws + scy - scx) 0) / (Ny * PW 10 (max (-(ws + scy - scx)) 0)))) ws t1_57 ng1_57 sc1_57 ln1_57 F1_57 u1_57) from by refine Or.inr ⟨by omega, ?_⟩; first | (rw [if_pos hc48]; exact hq57) | (rw [if_neg hc48]; exact hq57))
  · refine lv_bipush (v := iI (-5)) hx hb dAr_quotient_10 (by decide) ?_
    exact rt_i hx hb hr hlocks hK hS dAr_quotient_12 (tR, ngR, scR, lnR, FR, uR, LF, lu, RF, ru, QF, qu) hP hD (show (Ny = 0 ∧ (-5) = -5) ∨ (Ny ≠ 0 ∧ RES (-5) (sg (if ngx = ngy then 0 else 1) (Nx * PW 10 (max (ws + scy - scx) 0) / (Ny * PW 10 (max (-(ws + scy - scx)) 0)))) ws tR ngR scR lnR FR uR) from by exact Or.inl (by omega))

theorem dAr_remainder_0 : decode prog_2_method_6_code 0 = .ok (.aload_n 2, 1) := by decide +kernel
theorem dAr_remainder_1 : decode prog_2_method_6_code 1 = .ok (.getfield 69, 3) := by decide +kernel
theorem dAr_remainder_4 : decode prog_2_method_6_code 4 = .ok (.invokevirtual 80, 3) := by decide +kernel
theorem dAr_remainder_7 : decode prog_2_method_6_code 7 = .ok (.ifCond .eq 6, 3) := by decide +kernel
theorem dAr_remainder_10 : decode prog_2_method_6_code 10 = .ok (.bipush (-5), 2) := by decide +kernel
theorem dAr_remainder_12 : decode prog_2_method_6_code 12 = .ok (.ireturn, 1) := by decide +kernel
theorem dAr_remainder_13 : decode prog_2_method_6_code 13 = .ok (.aload_n 1, 1) := by decide +kernel
theorem dAr_remainder_14 : decode prog_2_method_6_code 14 = .ok (.getfield 56, 3) := by decide +kernel
theorem dAr_remainder_17 : decode prog_2_method_6_code 17 = .ok (.iload_n 3, 1) := by decide +kernel
theorem dAr_remainder_18 : decode prog_2_method_6_code 18 = .ok (.aload_n 2, 1) := by decide +kernel
theorem dAr_remainder_19 : decode prog_2_method_6_code 19 = .ok (.getfield 56, 3) := by decide +kernel
theorem dAr_remainder_22 : decode prog_2_method_6_code 22 = .ok (.iadd, 1) := by decide +kernel
theorem dAr_remainder_23 : decode prog_2_method_6_code 23 = .ok (.invokestatic 60, 3) := by decide +kernel
theorem dAr_remainder_26 : decode prog_2_method_6_code 26 = .ok (.istore 4, 2) := by decide +kernel
theorem dAr_remainder_28 : decode prog_2_method_6_code 28 = .ok (.iload 4, 2) := by decide +kernel
theorem dAr_remainder_30 : decode prog_2_method_6_code 30 = .ok (.bipush 40, 2) := by decide +kernel
theorem dAr_remainder_32 : decode prog_2_method_6_code 32 = .ok (.if_icmp .le 6, 3) := by decide +kernel
theorem dAr_remainder_35 : decode prog_2_method_6_code 35 = .ok (.bipush (-7), 2) := by decide +kernel
theorem dAr_remainder_37 : decode prog_2_method_6_code 37 = .ok (.ireturn, 1) := by decide +kernel
theorem dAr_remainder_38 : decode prog_2_method_6_code 38 = .ok (.aload_n 0, 1) := by decide +kernel
theorem dAr_remainder_39 : decode prog_2_method_6_code 39 = .ok (.aload_n 1, 1) := by decide +kernel
theorem dAr_remainder_40 : decode prog_2_method_6_code 40 = .ok (.aload_n 2, 1) := by decide +kernel
theorem dAr_remainder_41 : decode prog_2_method_6_code 41 = .ok (.iload_n 3, 1) := by decide +kernel
theorem dAr_remainder_42 : decode prog_2_method_6_code 42 = .ok (.invokevirtual 84, 3) := by decide +kernel
theorem dAr_remainder_45 : decode prog_2_method_6_code 45 = .ok (.aload_n 0, 1) := by decide +kernel
theorem dAr_remainder_46 : decode prog_2_method_6_code 46 = .ok (.getfield 12, 3) := by decide +kernel
theorem dAr_remainder_49 : decode prog_2_method_6_code 49 = .ok (.aload_n 0, 1) := by decide +kernel
theorem dAr_remainder_50 : decode prog_2_method_6_code 50 = .ok (.getfield 18, 3) := by decide +kernel
theorem dAr_remainder_53 : decode prog_2_method_6_code 53 = .ok (.aload_n 0, 1) := by decide +kernel
theorem dAr_remainder_54 : decode prog_2_method_6_code 54 = .ok (.getfield 24, 3) := by decide +kernel
theorem dAr_remainder_57 : decode prog_2_method_6_code 57 = .ok (.invokevirtual 88, 3) := by decide +kernel
theorem dAr_remainder_60 : decode prog_2_method_6_code 60 = .ok (.aload_n 0, 1) := by decide +kernel
theorem dAr_remainder_61 : decode prog_2_method_6_code 61 = .ok (.aload_n 0, 1) := by decide +kernel
theorem dAr_remainder_62 : decode prog_2_method_6_code 62 = .ok (.getfield 12, 3) := by decide +kernel
theorem dAr_remainder_65 : decode prog_2_method_6_code 65 = .ok (.aload_n 1, 1) := by decide +kernel
theorem dAr_remainder_66 : decode prog_2_method_6_code 66 = .ok (.getfield 31, 3) := by decide +kernel
theorem dAr_remainder_69 : decode prog_2_method_6_code 69 = .ok (.iload 4, 2) := by decide +kernel
theorem dAr_remainder_71 : decode prog_2_method_6_code 71 = .ok (.invokevirtual 49, 3) := by decide +kernel
theorem dAr_remainder_74 : decode prog_2_method_6_code 74 = .ok (.ireturn, 1) := by decide +kernel
abbrev qAr_remainder (dC : Nat → ClassId) (dI : Nat → Nat → Nat) (dA : Nat → ClassId) (dS : Nat → Nat) (ar : Nat) (la : Nat) (ra : Nat) (sa : Nat) (qa : Nat) (xR : Nat) (wR : Nat) (crR : Nat) (tR : Int) (ngR : Int) (scR : Int) (CR : Int → Int) (lnR : Int) (gR : Nat) (FR : Int → Int) (uR : Int) (lg : Nat) (LF : Int → Int) (lu : Int) (rg : Nat) (RF : Int → Int) (ru : Int) (qg : Nat) (QF : Int → Int) (qu : Int) (xx : Nat) (wx : Nat) (crx : Nat) (tx : Int) (ngx : Int) (scx : Int) (Cx : Int → Int) (lnx : Int) (gx : Nat) (Fx : Int → Int) (ux : Int) (Nx : Int) (xy : Nat) (wy : Nat) (cry : Nat) (ty : Int) (ngy : Int) (scy : Int) (Cy : Int → Int) (lny : Int) (gy : Nat) (Fy : Int → Int) (uy : Int) (Ny : Int) (ws : Int) (A : Nat → Prop) : Array Value → State → Outcome → State → Prop := QI (dC, dI) vwCl (tyA dA) (fun (r : Int) (v_ : Int × Int × Int × Int × (Int → Int) × Int × (Int → Int) × Int × (Int → Int) × Int × (Int → Int) × Int) => (Ny = 0 ∧ r = -5) ∨ (Ny ≠ 0 ∧ 40 < max scx (ws + scy) ∧ r = -7) ∨ (Ny ≠ 0 ∧ max scx (ws + scy) ≤ 40 ∧ RES r (sg ngx (Nx * PW 10 (max (ws + scy - scx) 0) % (Ny * PW 10 (max (-(ws + scy - scx)) 0)))) (max scx (ws + scy)) v_.1 v_.2.1 v_.2.2.1 v_.2.2.2.1 v_.2.2.2.2.1 v_.2.2.2.2.2.1)) (fun (v_ : Int × Int × Int × Int × (Int → Int) × Int × (Int → Int) × Int × (Int → Int) × Int × (Int → Int) × Int) => wAr dA ar xR la ra sa qa (wVa dA xR wR crR v_.1 v_.2.1 v_.2.2.1 CR v_.2.2.2.1 (wWh dA wR gR v_.2.2.2.2.1 v_.2.2.2.2.2.1 (wWh dA la lg v_.2.2.2.2.2.2.1 v_.2.2.2.2.2.2.2.1 (wWh dA ra rg v_.2.2.2.2.2.2.2.2.1 v_.2.2.2.2.2.2.2.2.2.1 (wWh dA qa qg v_.2.2.2.2.2.2.2.2.2.2.1 v_.2.2.2.2.2.2.2.2.2.2.2 (wVa dA xx wx crx tx ngx scx Cx lnx (wWh dA wx gx Fx ux (wVa dA xy wy cry ty ngy scy Cy lny (wWh dA wy gy Fy uy [])))))))))) A
abbrev rmAr_remainder : Room := { frames := 4, cells := 0, slots := 0, locals := 127 }
set_option maxRecDepth 100000 in
set_option maxHeartbeats 1000000 in
theorem cAr_remainder (l : Launch) (dC : Nat → ClassId) (dI : Nat → Nat → Nat) (dA : Nat → ClassId) (dS : Nat → Nat) (ar : Nat) (la : Nat) (ra : Nat) (sa : Nat) (qa : Nat) (xR : Nat) (wR : Nat) (crR : Nat) (tR : Int) (ngR : Int) (scR : Int) (CR : Int → Int) (lnR : Int) (gR : Nat) (FR : Int → Int) (uR : Int) (lg : Nat) (LF : Int → Int) (lu : Int) (rg : Nat) (RF : Int → Int) (ru : Int) (qg : Nat) (QF : Int → Int) (qu : Int) (xx : Nat) (wx : Nat) (crx : Nat) (tx : Int) (ngx : Int) (scx : Int) (Cx : Int → Int) (lnx : Int) (gx : Nat) (Fx : Int → Int) (ux : Int) (Nx : Int) (xy : Nat) (wy : Nat) (cry : Nat) (ty : Int) (ngy : Int) (scy : Int) (Cy : Int → Int) (lny : Int) (gy : Nat) (Fy : Int → Int) (uy : Int) (Ny : Int) (ws : Int) (hVx : VV tx ngx scx lnx Cx Nx) (hWx : WR Fx ux Nx) (hVy : VV ty ngy scy lny Cy Ny) (hWy : WR Fy uy Ny) (hws : 0 ≤ ws ∧ ws ≤ 40) (sz : Nat) : Met l yAr_remainder wsAr_remainder rmAr_remainder (PC (dC, dI) vwCl (tyA dA) (XC dS) [.ref ar, .ref xx, .ref xy, .int (iI ws)] (wAr dA ar xR la ra sa qa (wVa dA xR wR crR tR ngR scR CR lnR (wWh dA wR gR FR uR (wWh dA la lg LF lu (wWh dA ra rg RF ru (wWh dA qa qg QF qu (wVa dA xx wx crx tx ngx scx Cx lnx (wWh dA wx gx Fx ux (wVa dA xy wy cry ty ngy scy Cy lny (wWh dA wy gy Fy uy [])))))))))) sz) (qAr_remainder dC dI dA dS ar la ra sa qa xR wR crR tR ngR scR CR lnR gR FR uR lg LF lu rg RF ru qg QF qu xx wx crx tx ngx scx Cx lnx gx Fx ux Nx xy wy cry ty ngy scy Cy lny gy Fy uy Ny ws (va_A (wAr dA ar xR la ra sa qa (wVa dA xR wR crR tR ngR scR CR lnR (wWh dA wR gR FR uR (wWh dA la lg LF lu (wWh dA ra rg RF ru (wWh dA qa qg QF qu (wVa dA xx wx crx tx ngx scx Cx lnx (wWh dA wx gx Fx ux (wVa dA xy wy cry ty ngy scy Cy lny (wWh dA wy gy Fy uy [])))))))))) sz)) 0 0 (va_A (wAr dA ar xR la ra sa qa (wVa dA xR wR crR tR ngR scR CR lnR (wWh dA wR gR FR uR (wWh dA la lg LF lu (wWh dA ra rg RF ru (wWh dA qa qg QF qu (wVa dA xx wx crx tx ngx scx Cx lnx (wWh dA wx gx Fx ux (wVa dA xy wy cry ty ngy scy Cy lny (wWh dA wy gy Fy uy [])))))))))) sz) := by
  refine met_of (cc := prog_2_method_6_code) (maxL := 5) (ret := (some .int)) (Qc := qAr_remainder dC dI dA dS ar la ra sa qa xR wR crR tR ngR scR CR lnR gR FR uR lg LF lu rg RF ru qg QF qu xx wx crx tx ngx scx Cx lnx gx Fx ux Nx xy wy cry ty ngy scy Cy lny gy Fy uy Ny ws) (XC_ok dS) (by decide) rfl (Nat.le_of_ble_eq_true rfl) ?_
  intro p e s m below meth c ls A hx hb hr hml hown hts hlocks hnm hK hP hD hA hX hS hl
  have hl : lv_has ls 5 [(0, .ref ar), (1, .ref xx), (2, .ref xy), (3, .int (iI ws))] := hl
  have hown : s.vm.findClass "MacroReckoner$Arithmetic" = some m.cls := hown
  obtain ⟨H, hH⟩ : ∃ H : Heap, H = s.heap := ⟨_, rfl⟩
  obtain ⟨locs, hlo⟩ : ∃ L : List Loc, L = [] := ⟨_, rfl⟩
  have hP : va_P (dC, dI) vwCl (wAr dA ar xR la ra sa qa (wVa dA xR wR crR tR ngR scR CR lnR (wWh dA wR gR FR uR (wWh dA la lg LF lu (wWh dA ra rg RF ru (wWh dA qa qg QF qu (wVa dA xx wx crx tx ngx scx Cx lnx (wWh dA wx gx Fx ux (wVa dA xy wy cry ty ngy scy Cy lny (wWh dA wy gy Fy uy [])))))))))) H := hH ▸ hP
  have hS : va_S A s.heap H locs := by rw [hH, hlo]; exact hS
  suffices hgo : W p l e rmAr_remainder s m [.ref ar, .ref xx, .ref xy, .int (iI ws)].toArray below meth c H locs 0 0 (MQ below (qAr_remainder dC dI dA dS ar la ra sa qa xR wR crR tR ngR scR CR lnR gR FR uR lg LF lu rg RF ru qg QF qu xx wx crx tx ngx scx Cx lnx gx Fx ux Nx xy wy cry ty ngy scy Cy lny gy Fy uy Ny ws A) [.ref ar, .ref xx, .ref xy, .int (iI ws)].toArray s 0 0 A) (F0 m 0 ls []) by rw [hH, hlo] at hgo; exact hgo
  clear hH hlo
  have hVx0 := hVx
  have hVy0 := hVy
  obtain ⟨-, hngx, hscx, -, -, -, -, hx3, hx4⟩ := hVx
  have hNx0 := (WR_bd hWx).1
  obtain ⟨-, hngy, hscy, -, -, -, -, hy3, hy4⟩ := hVy
  have hNy0 := (WR_bd hWy).1
  refine lv_aload_n hx hb dAr_remainder_0 rfl (lv_at hl 2 rfl) ?_
  refine va_getN (D := (dC, dI)) (ci := 4) (v := .ref wy) (C := "MacroReckoner$Value") (T := TVa) (N := 6) hx hb hts inVa hown hK hP 15 rfl rfl 1 (by decide) (va_Nw.use rfl (hX.1 ("MacroReckoner$Arithmetic", 69, "MacroReckoner$Value", "whole", "LMacroReckoner$Whole;", "MacroReckoner") (List.mem_of_getElem? (i := 10) rfl))) (fun _ h9 => h9) rfl dAr_remainder_1 ?_
  refine cv_i (va_runV (C := "MacroReckoner$Whole") (As := []) (rest := []) ⟨hx, hb, hml, hown, hts⟩ (cWh_isZero l dC dI dA wy gy Fy uy Ny (by exact hWy) H.size) (cwV 0 hts (gdV wt3_126 wt3_23 wt3_24 wt1_5 wt3_25) rfl rfl rfl ⟨rfl, by decide, by decide, by decide +kernel⟩ ⟨by decide, by decide⟩) (preV (q := ("MacroReckoner$Whole", TWh, 2)) hK hP hD hS hA XN_ok trivial [17, 18] rfl rfl 0 rfl rfl) rfl rfl hl.1 rfl (lv_room (Nat.le_of_ble_eq_true rfl)) dAr_remainder_4 ⟨Nat.zero_le _, Nat.zero_le _⟩) hP hD hS hA [17, 18] [0, 1, 2, 3, 4, 5, 6, 7, 8, 9, 10, 11, 12, 13, 14, 15, 16] rfl (fun v_ => wAr dA ar xR la ra sa qa (wVa dA xR wR crR tR ngR scR CR lnR (wWh dA wR gR FR uR (wWh dA la lg LF lu (wWh dA ra rg RF ru (wWh dA qa qg QF qu (wVa dA xx wx crx tx ngx scx Cx lnx (wWh dA wx gx Fx ux (wVa dA xy wy cry ty ngy scy Cy lny (wWh dA wy gy Fy uy [])))))))))) (fun _ => rfl) (wAr dA ar xR la ra sa qa (wVa dA xR wR crR tR ngR scR CR lnR (wWh dA wR gR FR uR (wWh dA la lg LF lu (wWh dA ra rg RF ru (wWh dA qa qg QF qu (wVa dA xx wx crx tx ngx scx Cx lnx (wWh dA wx gx Fx ux (wVa dA xy wy cry ty ngy scy Cy lny []))))))))) rfl (fun _ => rfl) [ar, xR, crR, wR, gR, la, lg, ra, rg, qa, qg, xx, crx, wx, gx, xy, cry, wy, gy] rfl (fun _ => rfl) (fun _ => rfl) (fun r4 u_ H locs hq4 hP hD hS => ?_)
  have hP : va_P (dC, dI) vwCl (wAr dA ar xR la ra sa qa (wVa dA xR wR crR tR ngR scR CR lnR (wWh dA wR gR FR uR (wWh dA la lg LF lu (wWh dA ra rg RF ru (wWh dA qa qg QF qu (wVa dA xx wx crx tx ngx scx Cx lnx (wWh dA wx gx Fx ux (wVa dA xy wy cry ty ngy scy Cy lny (wWh dA wy gy Fy uy [])))))))))) H := hP
  have hD : va_D A (wAr dA ar xR la ra sa qa (wVa dA xR wR crR tR ngR scR CR lnR (wWh dA wR gR FR uR (wWh dA la lg LF lu (wWh dA ra rg RF ru (wWh dA qa qg QF qu (wVa dA xx wx crx tx ngx scx Cx lnx (wWh dA wx gx Fx ux (wVa dA xy wy cry ty ngy scy Cy lny (wWh dA wy gy Fy uy [])))))))))) := hD
  have hq4 : (r4 = 1 ∧ Ny = 0) ∨ (r4 = 0 ∧ Ny ≠ 0) := hq4
  refine iv_if_eq (tgt := 13) hx hb dAr_remainder_7 (by decide) ⟨by omega, by omega⟩ (fun hc7 => ?_) (fun hc7 => ?_)
  · refine lv_aload_n hx hb dAr_remainder_13 rfl (lv_at hl 1 rfl) ?_
    refine va_getN (D := (dC, dI)) (ci := 4) (v := .int (iI scx)) (C := "MacroReckoner$Value") (T := TVa) (N := 6) hx hb hts inVa hown hK hP 11 rfl rfl 3 (by decide) (va_Nw.use rfl (hX.1 ("MacroReckoner$Arithmetic", 56, "MacroReckoner$Value", "scale", "I", "MacroReckoner") (List.mem_of_getElem? (i := 16) rfl))) (fun _ h9 => h9) rfl dAr_remainder_14 ?_
    refine lv_iload_n hx hb dAr_remainder_17 rfl (lv_at hl 3 rfl) ?_
    refine lv_aload_n hx hb dAr_remainder_18 rfl (lv_at hl 2 rfl) ?_
    refine va_getN (D := (dC, dI)) (ci := 4) (v := .int (iI scy)) (C := "MacroReckoner$Value") (T := TVa) (N := 6) hx hb hts inVa hown hK hP 15 rfl rfl 3 (by decide) (va_Nw.use rfl (hX.1 ("MacroReckoner$Arithmetic", 56, "MacroReckoner$Value", "scale", "I", "MacroReckoner") (List.mem_of_getElem? (i := 16) rfl))) (fun _ h9 => h9) rfl dAr_remainder_19 ?_
    refine iv_iadd hx hb dAr_remainder_22 ?_
    refine iv_mmax hx hb (hml.trans hl.1.symm) hown (hts _ wt3_70) (hts _ wt2_178) (hts _ wt1_16) (hts _ wt2_179) (by decide) (Nat.le_of_ble_eq_true rfl) (Nat.zero_le _) (Nat.zero_le _) dAr_remainder_23 ⟨by omega, by omega⟩ ⟨by omega, by omega⟩ ?_
    refine lv_istore (lv' := [(4, .int (iI (max scx (ws + scy)))), (0, .ref ar), (1, .ref xx), (2, .ref xy), (3, .int (iI ws))]) hx hb dAr_remainder_26 hl (by decide) rfl (fun ls hl => ?_)
    refine lv_iload hx hb dAr_remainder_28 (lv_at hl 0 rfl) ?_
    refine lv_bipush (v := iI 40) hx hb dAr_remainder_30 (by decide) ?_
    refine iv_icmp_le (tgt := 38) hx hb dAr_remainder_32 (by decide) ⟨by omega, by omega⟩ ⟨by decide, by decide⟩ (fun hc32 => ?_) (fun hc32 => ?_)
    · refine lv_aload_n hx hb dAr_remainder_38 rfl (lv_at hl 1 rfl) ?_
      refine lv_aload_n hx hb dAr_remainder_39 rfl (lv_at hl 2 rfl) ?_
      refine lv_aload_n hx hb dAr_remainder_40 rfl (lv_at hl 3 rfl) ?_
      refine lv_iload_n hx hb dAr_remainder_41 rfl (lv_at hl 4 rfl) ?_
      refine cv_v (va_runV (C := "MacroReckoner$Arithmetic") (As := [.ref xx, .ref xy, .int (iI ws)]) (rest := []) ⟨hx, hb, hml, hown, hts⟩ (cAr_align l dC dI dA dS ar la ra sa qa xR lg LF lu rg RF ru xx wx crx tx ngx scx Cx lnx gx Fx ux Nx xy wy cry ty ngy scy Cy lny gy Fy uy Ny ws (by exact hVx0) (by exact hWx) (by exact hVy0) (by exact hWy) (by exact hws) H.size) (cwV 3 hts (gdV wt3_127 wt3_129 ws2_2 wt1_6 wt3_130) rfl rfl rfl ⟨rfl, by decide, by decide, by decide +kernel⟩ ⟨by decide, by decide⟩) (preV (q := ("MacroReckoner$Arithmetic", TAr, 5)) hK hP hD hS hA (XC_ok dS) hX [0, 5, 6, 7, 8, 11, 12, 13, 14, 15, 16, 17, 18] rfl rfl 0 rfl rfl) rfl rfl hl.1 rfl (lv_room (Nat.le_of_ble_eq_true rfl)) dAr_remainder_42 ⟨Nat.zero_le _, Nat.zero_le _⟩) hP hD hS hA [0, 5, 6, 7, 8, 11, 12, 13, 14, 15, 16, 17, 18] [1, 2, 3, 4, 9, 10] rfl (fun v_ => wAr dA ar xR la ra sa qa (wVa dA xR wR crR tR ngR scR CR lnR (wWh dA wR gR FR uR (wWh dA la lg v_.1 v_.2.1 (wWh dA ra rg v_.2.2.1 v_.2.2.2 (wWh dA qa qg QF qu (wVa dA xx wx crx tx ngx scx Cx lnx (wWh dA wx gx Fx ux (wVa dA xy wy cry ty ngy scy Cy lny (wWh dA wy gy Fy uy [])))))))))) (fun _ => rfl) (wVa dA xR wR crR tR ngR scR CR lnR (wWh dA wR gR FR uR (wWh dA qa qg QF qu []))) rfl (fun _ => rfl) [ar, xR, crR, wR, gR, la, lg, ra, rg, qa, qg, xx, crx, wx, gx, xy, cry, wy, gy] rfl (fun _ => rfl) (fun _ => rfl) (fun u_ H locs hq42 hP hD hS => ?_)
      obtain ⟨LA, lua, RA, rua⟩ := u_
      have hP : va_P (dC, dI) vwCl (wAr dA ar xR la ra sa qa (wVa dA xR wR crR tR ngR scR CR lnR (wWh dA wR gR FR uR (wWh dA la lg LA lua (wWh dA ra rg RA rua (wWh dA qa qg QF qu (wVa dA xx wx crx tx ngx scx Cx lnx (wWh dA wx gx Fx ux (wVa dA xy wy cry ty ngy scy Cy lny (wWh dA wy gy Fy uy [])))))))))) H := hP
      have hD : va_D A (wAr dA ar xR la ra sa qa (wVa dA xR wR crR tR ngR scR CR lnR (wWh dA wR gR FR uR (wWh dA la lg LA lua (wWh dA ra rg RA rua (wWh dA qa qg QF qu (wVa dA xx wx crx tx ngx scx Cx lnx (wWh dA wx gx Fx ux (wVa dA xy wy cry ty ngy scy Cy lny (wWh dA wy gy Fy uy [])))))))))) := hD
      have hq42 : WR LA lua (Nx * PW 10 (max (ws + scy - scx) 0)) ∧ WR RA rua (Ny * PW 10 (max (-(ws + scy - scx)) 0)) := hq42
      refine lv_aload_n hx hb dAr_remainder_45 rfl (lv_at hl 1 rfl) ?_
      refine va_get (D := (dC, dI)) (ci := 0) (v := .ref la) (C := "MacroReckoner$Arithmetic") (T := TAr) (N := 5) hx hb hts inAr hown hK hP 0 rfl rfl 1 (by decide) (hts _ wt1_143) (fun _ h9 => h9) rfl dAr_remainder_46 ?_
      refine lv_aload_n hx hb dAr_remainder_49 rfl (lv_at hl 1 rfl) ?_
      refine va_get (D := (dC, dI)) (ci := 0) (v := .ref ra) (C := "MacroReckoner$Arithmetic") (T := TAr) (N := 5) hx hb hts inAr hown hK hP 0 rfl rfl 2 (by decide) (hts _ wt1_144) (fun _ h9 => h9) rfl dAr_remainder_50 ?_
      refine lv_aload_n hx hb dAr_remainder_53 rfl (lv_at hl 1 rfl) ?_
      refine va_get (D := (dC, dI)) (ci := 0) (v := .ref qa) (C := "MacroReckoner$Arithmetic") (T := TAr) (N := 5) hx hb hts inAr hown hK hP 0 rfl rfl 4 (by decide) (hts _ wt1_146) (fun _ h9 => h9) rfl dAr_remainder_54 ?_
      refine cv_v (va_runV (C := "MacroReckoner$Whole") (As := [.ref ra, .ref qa]) (rest := []) ⟨hx, hb, hml, hown, hts⟩ (cWh_divideBy l dC dI dA dS la lg LA lua (Nx * PW 10 (max (ws + scy - scx) 0)) ra rg RA rua (Ny * PW 10 (max (-(ws + scy - scx)) 0)) qa qg QF qu (by exact hq42.1) (by exact hq42.2) (by exact Int.mul_pos (by omega) (PW_pos (by decide) _)) (by exact (w60 hNx0 hx4 (by omega) (by omega)).2.2.1) H.size) (cwV 2 hts (gdV wt3_131 wt3_132 wt3_133 wt1_5 wt3_134) rfl rfl rfl ⟨rfl, by decide, by decide, by decide +kernel⟩ ⟨by decide, by decide⟩) (preV (q := ("MacroReckoner$Whole", TWh, 2)) hK hP hD hS hA (XC_ok dS) hX [5, 6, 7, 8, 9, 10] rfl rfl 0 rfl rfl) rfl rfl hl.1 rfl (lv_room (Nat.le_of_ble_eq_true rfl)) dAr_remainder_57 ⟨Nat.zero_le _, Nat.zero_le _⟩) hP hD hS hA [5, 6, 7, 8, 9, 10] [0, 1, 2, 3, 4, 11, 12, 13, 14, 15, 16, 17, 18] rfl (fun v_ => wAr dA ar xR la ra sa qa (wVa dA xR wR crR tR ngR scR CR lnR (wWh dA wR gR FR uR (wWh dA la lg v_.1 v_.2.1 (wWh dA ra rg v_.2.2.1 v_.2.2.2.1 (wWh dA qa qg v_.2.2.2.2.1 v_.2.2.2.2.2 (wVa dA xx wx crx tx ngx scx Cx lnx (wWh dA wx gx Fx ux (wVa dA xy wy cry ty ngy scy Cy lny (wWh dA wy gy Fy uy [])))))))))) (fun _ => rfl) (wAr dA ar xR la ra sa qa (wVa dA xR wR crR tR ngR scR CR lnR (wWh dA wR gR FR uR (wVa dA xx wx crx tx ngx scx Cx lnx (wWh dA wx gx Fx ux (wVa dA xy wy cry ty ngy scy Cy lny (wWh dA wy gy Fy uy []))))))) rfl (fun _ => rfl) [ar, xR, crR, wR, gR, la, lg, ra, rg, qa, qg, xx, crx, wx, gx, xy, cry, wy, gy] rfl (fun _ => rfl) (fun _ => rfl) (fun u_ H locs hq57 hP hD hS => ?_)
      obtain ⟨LB, lub, RB, rub, QB, qub⟩ := u_
      have hP : va_P (dC, dI) vwCl (wAr dA ar xR la ra sa qa (wVa dA xR wR crR tR ngR scR CR lnR (wWh dA wR gR FR uR (wWh dA la lg LB lub (wWh dA ra rg RB rub (wWh dA qa qg QB qub (wVa dA xx wx crx tx ngx scx Cx lnx (wWh dA wx gx Fx ux (wVa dA xy wy cry ty ngy scy Cy lny (wWh dA wy gy Fy uy [])))))))))) H := hP
      have hD : va_D A (wAr dA ar xR la ra sa qa (wVa dA xR wR crR tR ngR scR CR lnR (wWh dA wR gR FR uR (wWh dA la lg LB lub (wWh dA ra rg RB rub (wWh dA qa qg QB qub (wVa dA xx wx crx tx ngx scx Cx lnx (wWh dA wx gx Fx ux (wVa dA xy wy cry ty ngy scy Cy lny (wWh dA wy gy Fy uy [])))))))))) := hD
      have hq57 : WR LB lub ((Nx * PW 10 (max (ws + scy - scx) 0)) % (Ny * PW 10 (max (-(ws + scy - scx)) 0))) ∧ WR RB rub (Ny * PW 10 (max (-(ws + scy - scx)) 0)) ∧ WR QB qub ((Nx * PW 10 (max (ws + scy - scx) 0)) / (Ny * PW 10 (max (-(ws + scy - scx)) 0))) := hq57
      refine lv_aload_n hx hb dAr_remainder_60 rfl (lv_at hl 1 rfl) ?_
      refine lv_aload_n hx hb dAr_remainder_61 rfl (lv_at hl 1 rfl) ?_
      refine va_get (D := (dC, dI)) (ci := 0) (v := .ref la) (C := "MacroReckoner$Arithmetic") (T := TAr) (N := 5) hx hb hts inAr hown hK hP 0 rfl rfl 1 (by decide) (hts _ wt1_143) (fun _ h9 => h9) rfl dAr_remainder_62 ?_
      refine lv_aload_n hx hb dAr_remainder_65 rfl (lv_at hl 2 rfl) ?_
      refine va_getN (D := (dC, dI)) (ci := 4) (v := .int (iI ngx)) (C := "MacroReckoner$Value") (T := TVa) (N := 6) hx hb hts inVa hown hK hP 11 rfl rfl 2 (by decide) (va_Nw.use rfl (hX.1 ("MacroReckoner$Arithmetic", 31, "MacroReckoner$Value", "negative", "Z", "MacroReckoner") (List.mem_of_getElem? (i := 13) rfl))) (fun _ h9 => h9) rfl dAr_remainder_66 ?_
      refine lv_iload hx hb dAr_remainder_69 (lv_at hl 0 rfl) ?_
      refine cv_i (va_runV (C := "MacroReckoner$Arithmetic") (As := [.ref la, .int (iI ngx), .int (iI (max scx (ws + scy)))]) (rest := []) ⟨hx, hb, hml, hown, hts⟩ (cAr_finish l dC dI dA dS ar la ra sa qa xR wR crR tR ngR scR CR lnR gR FR uR la lg LB lub (Nx * PW 10 (max (ws + scy - scx) 0) % (Ny * PW 10 (max (-(ws + scy - scx)) 0))) ngx (max scx (ws + scy)) (by exact hq57.1) (by exact hngx) H.size) (cwV 3 hts (gdV wt3_83 wt3_85 ws2_0 wt1_6 wt3_86) rfl rfl rfl ⟨rfl, by decide, by decide, by decide +kernel⟩ ⟨by decide, by decide⟩) (preV (q := ("MacroReckoner$Arithmetic", TAr, 5)) hK hP hD hS hA (XC_ok dS) hX [0, 1, 2, 3, 4, 5, 6] rfl rfl 0 rfl rfl) rfl rfl hl.1 rfl (lv_room (Nat.le_of_ble_eq_true rfl)) dAr_remainder_71 ⟨Nat.zero_le _, Nat.zero_le _⟩) hP hD hS hA [0, 1, 2, 3, 4, 5, 6] [7, 8, 9, 10, 11, 12, 13, 14, 15, 16, 17, 18] rfl (fun v_ => wAr dA ar xR la ra sa qa (wVa dA xR wR crR v_.1 v_.2.1 v_.2.2.1 CR v_.2.2.2.1 (wWh dA wR gR v_.2.2.2.2.1 v_.2.2.2.2.2 (wWh dA la lg LB lub (wWh dA ra rg RB rub (wWh dA qa qg QB qub (wVa dA xx wx crx tx ngx scx Cx lnx (wWh dA wx gx Fx ux (wVa dA xy wy cry ty ngy scy Cy lny (wWh dA wy gy Fy uy [])))))))))) (fun _ => rfl) (wWh dA ra rg RB rub (wWh dA qa qg QB qub (wVa dA xx wx crx tx ngx scx Cx lnx (wWh dA wx gx Fx ux (wVa dA xy wy cry ty ngy scy Cy lny (wWh dA wy gy Fy uy [])))))) rfl (fun _ => rfl) [ar, xR, crR, wR, gR, la, lg, ra, rg, qa, qg, xx, crx, wx, gx, xy, cry, wy, gy] rfl (fun _ => rfl) (fun _ => rfl) (fun r71 u_ H locs hq71 hP hD hS => ?_)
      obtain ⟨t1_71, ng1_71, sc1_71, ln1_71, F1_71, u1_71⟩ := u_
      have hP : va_P (dC, dI) vwCl (wAr dA ar xR la ra sa qa (wVa dA xR wR crR t1_71 ng1_71 sc1_71 CR ln1_71 (wWh dA wR gR F1_71 u1_71 (wWh dA la lg LB lub (wWh dA ra rg RB rub (wWh dA qa qg QB qub (wVa dA xx wx crx tx ngx scx Cx lnx (wWh dA wx gx Fx ux (wVa dA xy wy cry ty ngy scy Cy lny (wWh dA wy gy Fy uy [])))))))))) H := hP
      have hD : va_D A (wAr dA ar xR la ra sa qa (wVa dA xR wR crR t1_71 ng1_71 sc1_71 CR ln1_71 (wWh dA wR gR F1_71 u1_71 (wWh dA la lg LB lub (wWh dA ra rg RB rub (wWh dA qa qg QB qub (wVa dA xx wx crx tx ngx scx Cx lnx (wWh dA wx gx Fx ux (wVa dA xy wy cry ty ngy scy Cy lny (wWh dA wy gy Fy uy [])))))))))) := hD
      have hq71 : RES r71 (sg ngx (Nx * PW 10 (max (ws + scy - scx) 0) % (Ny * PW 10 (max (-(ws + scy - scx)) 0)))) (max scx (ws + scy)) t1_71 ng1_71 sc1_71 ln1_71 F1_71 u1_71 := hq71
      exact rt_i hx hb hr hlocks hK hS dAr_remainder_74 (t1_71, ng1_71, sc1_71, ln1_71, F1_71, u1_71, LB, lub, RB, rub, QB, qub) hP hD (show (Ny = 0 ∧ r71 = -5) ∨ (Ny ≠ 0 ∧ 40 < max scx (ws + scy) ∧ r71 = -7) ∨ (Ny ≠ 0 ∧ max scx (ws + scy) ≤ 40 ∧ RES r71 (sg ngx (Nx * PW 10 (max (ws + scy - scx) 0) % (Ny * PW 10 (max (-(ws + scy - scx)) 0)))) (max scx (ws + scy)) t1_71 ng1_71 sc1_71 ln1_71 F1_71 u1_71) from by exact Or.inr (Or.inr ⟨by omega, by omega, hq71⟩))
    · refine lv_bipush (v := iI (-7)) hx hb dAr_remainder_35 (by decide) ?_
      exact rt_i hx hb hr hlocks hK hS dAr_remainder_37 (tR, ngR, scR, lnR, FR, uR, LF, lu, RF, ru, QF, qu) hP hD (show (Ny = 0 ∧ (-7) = -5) ∨ (Ny ≠ 0 ∧ 40 < max scx (ws + scy) ∧ (-7) = -7) ∨ (Ny ≠ 0 ∧ max scx (ws + scy) ≤ 40 ∧ RES (-7) (sg ngx (Nx * PW 10 (max (ws + scy - scx) 0) % (Ny * PW 10 (max (-(ws + scy - scx)) 0)))) (max scx (ws + scy)) tR ngR scR lnR FR uR) from by exact Or.inr (Or.inl ⟨by omega, by omega, rfl⟩))
  · refine lv_bipush (v := iI (-5)) hx hb dAr_remainder_10 (by decide) ?_
    exact rt_i hx hb hr hlocks hK hS dAr_remainder_12 (tR, ngR, scR, lnR, FR, uR, LF, lu, RF, ru, QF, qu) hP hD (show (Ny = 0 ∧ (-5) = -5) ∨ (Ny ≠ 0 ∧ 40 < max scx (ws + scy) ∧ (-5) = -7) ∨ (Ny ≠ 0 ∧ max scx (ws + scy) ≤ 40 ∧ RES (-5) (sg ngx (Nx * PW 10 (max (ws + scy - scx) 0) % (Ny * PW 10 (max (-(ws + scy - scx)) 0)))) (max scx (ws + scy)) tR ngR scR lnR FR uR) from by exact Or.inl (by omega))

theorem dAr_raise_0 : decode prog_2_method_11_code 0 = .ok (.aload_n 0, 1) := by decide +kernel
theorem dAr_raise_1 : decode prog_2_method_11_code 1 = .ok (.getfield 12, 3) := by decide +kernel
theorem dAr_raise_4 : decode prog_2_method_11_code 4 = .ok (.iconst 1, 1) := by decide +kernel
theorem dAr_raise_5 : decode prog_2_method_11_code 5 = .ok (.invokevirtual 111, 3) := by decide +kernel
theorem dAr_raise_8 : decode prog_2_method_11_code 8 = .ok (.iconst 0, 1) := by decide +kernel
theorem dAr_raise_9 : decode prog_2_method_11_code 9 = .ok (.istore_n 3, 1) := by decide +kernel
theorem dAr_raise_10 : decode prog_2_method_11_code 10 = .ok (.iload_n 3, 1) := by decide +kernel
theorem dAr_raise_11 : decode prog_2_method_11_code 11 = .ok (.iload_n 2, 1) := by decide +kernel
theorem dAr_raise_12 : decode prog_2_method_11_code 12 = .ok (.if_icmp .ge 45, 3) := by decide +kernel
theorem dAr_raise_15 : decode prog_2_method_11_code 15 = .ok (.aload_n 0, 1) := by decide +kernel
theorem dAr_raise_16 : decode prog_2_method_11_code 16 = .ok (.getfield 12, 3) := by decide +kernel
theorem dAr_raise_19 : decode prog_2_method_11_code 19 = .ok (.invokevirtual 91, 3) := by decide +kernel
theorem dAr_raise_22 : decode prog_2_method_11_code 22 = .ok (.sipush 200, 3) := by decide +kernel
theorem dAr_raise_25 : decode prog_2_method_11_code 25 = .ok (.if_icmp .gt 32, 3) := by decide +kernel
theorem dAr_raise_28 : decode prog_2_method_11_code 28 = .ok (.aload_n 0, 1) := by decide +kernel
theorem dAr_raise_29 : decode prog_2_method_11_code 29 = .ok (.getfield 18, 3) := by decide +kernel
theorem dAr_raise_32 : decode prog_2_method_11_code 32 = .ok (.aload_n 0, 1) := by decide +kernel
theorem dAr_raise_33 : decode prog_2_method_11_code 33 = .ok (.getfield 12, 3) := by decide +kernel
theorem dAr_raise_36 : decode prog_2_method_11_code 36 = .ok (.aload_n 1, 1) := by decide +kernel
theorem dAr_raise_37 : decode prog_2_method_11_code 37 = .ok (.invokevirtual 72, 3) := by decide +kernel
theorem dAr_raise_40 : decode prog_2_method_11_code 40 = .ok (.aload_n 0, 1) := by decide +kernel
theorem dAr_raise_41 : decode prog_2_method_11_code 41 = .ok (.getfield 12, 3) := by decide +kernel
theorem dAr_raise_44 : decode prog_2_method_11_code 44 = .ok (.aload_n 0, 1) := by decide +kernel
theorem dAr_raise_45 : decode prog_2_method_11_code 45 = .ok (.getfield 18, 3) := by decide +kernel
theorem dAr_raise_48 : decode prog_2_method_11_code 48 = .ok (.invokevirtual 105, 3) := by decide +kernel
theorem dAr_raise_51 : decode prog_2_method_11_code 51 = .ok (.iinc 3 1, 3) := by decide +kernel
theorem dAr_raise_54 : decode prog_2_method_11_code 54 = .ok (.goto (-44), 3) := by decide +kernel
theorem dAr_raise_57 : decode prog_2_method_11_code 57 = .ok (.aload_n 0, 1) := by decide +kernel
theorem dAr_raise_58 : decode prog_2_method_11_code 58 = .ok (.getfield 12, 3) := by decide +kernel
theorem dAr_raise_61 : decode prog_2_method_11_code 61 = .ok (.invokevirtual 91, 3) := by decide +kernel
theorem dAr_raise_64 : decode prog_2_method_11_code 64 = .ok (.sipush 200, 3) := by decide +kernel
theorem dAr_raise_67 : decode prog_2_method_11_code 67 = .ok (.if_icmp .gt 7, 3) := by decide +kernel
theorem dAr_raise_70 : decode prog_2_method_11_code 70 = .ok (.iconst 1, 1) := by decide +kernel
theorem dAr_raise_71 : decode prog_2_method_11_code 71 = .ok (.goto 4, 3) := by decide +kernel
theorem dAr_raise_74 : decode prog_2_method_11_code 74 = .ok (.iconst 0, 1) := by decide +kernel
theorem dAr_raise_75 : decode prog_2_method_11_code 75 = .ok (.ireturn, 1) := by decide +kernel
abbrev qAr_raise (dC : Nat → ClassId) (dI : Nat → Nat → Nat) (dA : Nat → ClassId) (dS : Nat → Nat) (ar : Nat) (la : Nat) (ra : Nat) (sa : Nat) (qa : Nat) (xR : Nat) (lg : Nat) (LF : Int → Int) (lu : Int) (rg : Nat) (RF : Int → Int) (ru : Int) (a : Nat) (ga : Nat) (Fa : Int → Int) (ua : Int) (M : Int) (tm : Int) (A : Nat → Prop) : Array Value → State → Outcome → State → Prop := QI (dC, dI) vwCl (tyA dA) (fun (r : Int) (v_ : (Int → Int) × Int × (Int → Int) × Int) => WR v_.1 v_.2.1 (PW M tm) ∧ r = 1 ∧ PW M tm < PW 10 200 ∨ r = 0 ∧ PW 10 200 ≤ PW M tm) (fun (v_ : (Int → Int) × Int × (Int → Int) × Int) => wAr dA ar xR la ra sa qa (wWh dA la lg v_.1 v_.2.1 (wWh dA ra rg v_.2.2.1 v_.2.2.2 (wWh dA a ga Fa ua [])))) A
abbrev rmAr_raise : Room := { frames := 2, cells := 0, slots := 0, locals := 81 }
set_option maxRecDepth 100000 in
set_option maxHeartbeats 1000000 in
theorem cAr_raise (l : Launch) (dC : Nat → ClassId) (dI : Nat → Nat → Nat) (dA : Nat → ClassId) (dS : Nat → Nat) (ar : Nat) (la : Nat) (ra : Nat) (sa : Nat) (qa : Nat) (xR : Nat) (lg : Nat) (LF : Int → Int) (lu : Int) (rg : Nat) (RF : Int → Int) (ru : Int) (a : Nat) (ga : Nat) (Fa : Int → Int) (ua : Int) (M : Int) (tm : Int) (hW : WR Fa ua M) (hM6 : M < PW 10 60) (htm : 0 ≤ tm ∧ tm ≤ 99) (sz : Nat) : Met l yAr_raise wsAr_raise rmAr_raise (PC (dC, dI) vwCl (tyA dA) (XC dS) [.ref ar, .ref a, .int (iI tm)] (wAr dA ar xR la ra sa qa (wWh dA la lg LF lu (wWh dA ra rg RF ru (wWh dA a ga Fa ua [])))) sz) (qAr_raise dC dI dA dS ar la ra sa qa xR lg LF lu rg RF ru a ga Fa ua M tm (va_A (wAr dA ar xR la ra sa qa (wWh dA la lg LF lu (wWh dA ra rg RF ru (wWh dA a ga Fa ua [])))) sz)) 0 0 (va_A (wAr dA ar xR la ra sa qa (wWh dA la lg LF lu (wWh dA ra rg RF ru (wWh dA a ga Fa ua [])))) sz) := by
  refine met_of (cc := prog_2_method_11_code) (maxL := 4) (ret := (some .boolean)) (Qc := qAr_raise dC dI dA dS ar la ra sa qa xR lg LF lu rg RF ru a ga Fa ua M tm) (XC_ok dS) (by decide) rfl (Nat.le_of_ble_eq_true rfl) ?_
  intro p e s m below meth c ls A hx hb hr hml hown hts hlocks hnm hK hP hD hA hX hS hl
  have hl : lv_has ls 4 [(0, .ref ar), (1, .ref a), (2, .int (iI tm))] := hl
  have hown : s.vm.findClass "MacroReckoner$Arithmetic" = some m.cls := hown
  obtain ⟨H, hH⟩ : ∃ H : Heap, H = s.heap := ⟨_, rfl⟩
  obtain ⟨locs, hlo⟩ : ∃ L : List Loc, L = [] := ⟨_, rfl⟩
  have hP : va_P (dC, dI) vwCl (wAr dA ar xR la ra sa qa (wWh dA la lg LF lu (wWh dA ra rg RF ru (wWh dA a ga Fa ua [])))) H := hH ▸ hP
  have hS : va_S A s.heap H locs := by rw [hH, hlo]; exact hS
  suffices hgo : W p l e rmAr_raise s m [.ref ar, .ref a, .int (iI tm)].toArray below meth c H locs 0 0 (MQ below (qAr_raise dC dI dA dS ar la ra sa qa xR lg LF lu rg RF ru a ga Fa ua M tm A) [.ref ar, .ref a, .int (iI tm)].toArray s 0 0 A) (F0 m 0 ls []) by rw [hH, hlo] at hgo; exact hgo
  clear hH hlo
  have hM0 := (WR_bd hW).1
  have hu7 := u60 hW hM6
  refine lv_aload_n hx hb dAr_raise_0 rfl (lv_at hl 0 rfl) ?_
  refine va_get (D := (dC, dI)) (ci := 0) (v := .ref la) (C := "MacroReckoner$Arithmetic") (T := TAr) (N := 5) hx hb hts inAr hown hK hP 0 rfl rfl 1 (by decide) (hts _ wt1_143) (fun _ h9 => h9) rfl dAr_raise_1 ?_
  refine lv_iconst (v := iI 1) hx hb dAr_raise_4 rfl ?_
  refine cv_v (va_runV (C := "MacroReckoner$Whole") (As := [.int (iI 1)]) (rest := []) ⟨hx, hb, hml, hown, hts⟩ (cWh_becomeSmall l dC dI dA la lg LF lu 1 (by omega) H.size) (cwV 1 hts (gdV wt3_170 wt3_14 wt3_15 wt1_5 wt3_16) rfl rfl rfl ⟨rfl, by decide, by decide, by decide +kernel⟩ ⟨by decide, by decide⟩) (preV (q := ("MacroReckoner$Whole", TWh, 2)) hK hP hD hS hA XN_ok trivial [1, 2] rfl rfl 0 rfl rfl) rfl rfl hl.1 rfl (lv_room (Nat.le_of_ble_eq_true rfl)) dAr_raise_5 ⟨Nat.zero_le _, Nat.zero_le _⟩) hP hD hS hA [1, 2] [0, 3, 4, 5, 6] rfl (fun v_ => wAr dA ar xR la ra sa qa (wWh dA la lg v_.1 v_.2 (wWh dA ra rg RF ru (wWh dA a ga Fa ua [])))) (fun _ => rfl) (wAr dA ar xR la ra sa qa (wWh dA ra rg RF ru (wWh dA a ga Fa ua []))) rfl (fun _ => rfl) [ar, la, lg, ra, rg, a, ga] rfl (fun _ => rfl) (fun _ => rfl) (fun u_ H locs hq5 hP hD hS => ?_)
  obtain ⟨LA, lua⟩ := u_
  have hP : va_P (dC, dI) vwCl (wAr dA ar xR la ra sa qa (wWh dA la lg LA lua (wWh dA ra rg RF ru (wWh dA a ga Fa ua [])))) H := hP
  have hD : va_D A (wAr dA ar xR la ra sa qa (wWh dA la lg LA lua (wWh dA ra rg RF ru (wWh dA a ga Fa ua [])))) := hD
  have hq5 : WR LA lua 1 := hq5
  refine lv_iconst (v := iI 0) hx hb dAr_raise_8 rfl ?_
  refine lv_istore_n (lv' := [(3, .int (iI 0)), (0, .ref ar), (1, .ref a), (2, .int (iI tm))]) hx hb dAr_raise_9 rfl hl (by decide) rfl (fun ls hl => ?_)
  have L10 : ∀ (n : Nat) (L9 : Int → Int) (l9 : Int) (R9 : Int → Int) (r9 : Int) (i : Int) (H : Heap) (locs : List Loc) (ls : Array Slot), (0 ≤ i ∧ i ≤ tm) → (WR L9 l9 (PW M i)) → (tm - i).toNat < n → va_P (dC, dI) vwCl (wAr dA ar xR la ra sa qa (wWh dA la lg L9 l9 (wWh dA ra rg R9 r9 (wWh dA a ga Fa ua [])))) H → va_D A (wAr dA ar xR la ra sa qa (wWh dA la lg L9 l9 (wWh dA ra rg R9 r9 (wWh dA a ga Fa ua [])))) → va_S A s.heap H locs → lv_has ls 4 [(3, .int (iI i)), (0, .ref ar), (1, .ref a), (2, .int (iI tm))] → W p l e rmAr_raise s m [.ref ar, .ref a, .int (iI tm)].toArray below meth c H locs 0 0 (MQ below (qAr_raise dC dI dA dS ar la ra sa qa xR lg LF lu rg RF ru a ga Fa ua M tm A) [.ref ar, .ref a, .int (iI tm)].toArray s 0 0 A) (F0 m 10 ls []) := by
    intro n
    induction n with
    | zero => intro L9 l9 R9 r9 i H locs ls hi hJ hn; omega
    | succ n ih =>
      intro L9 l9 R9 r9 i H locs ls hi hJ hn hP hD hS hl
      have ih10 := ih
      refine lv_iload_n hx hb dAr_raise_10 rfl (lv_at hl 0 rfl) ?_
      refine lv_iload_n hx hb dAr_raise_11 rfl (lv_at hl 3 rfl) ?_
      refine iv_icmp_ge (tgt := 57) hx hb dAr_raise_12 (by decide) ⟨by omega, by omega⟩ ⟨by omega, by omega⟩ (fun hc12 => ?_) (fun hc12 => ?_)
      · refine lv_aload_n hx hb dAr_raise_57 rfl (lv_at hl 1 rfl) ?_
        refine va_get (D := (dC, dI)) (ci := 0) (v := .ref la) (C := "MacroReckoner$Arithmetic") (T := TAr) (N := 5) hx hb hts inAr hown hK hP 0 rfl rfl 1 (by decide) (hts _ wt1_143) (fun _ h9 => h9) rfl dAr_raise_58 ?_
        refine cv_i (va_runV (C := "MacroReckoner$Whole") (As := []) (rest := []) ⟨hx, hb, hml, hown, hts⟩ (cWh_size l dC dI dA dS la lg L9 l9 (PW M i) (by exact hJ) H.size) (cwV 0 hts (gdV wt3_87 wt3_31 wt3_32 wt1_5 wt3_33) rfl rfl rfl ⟨rfl, by decide, by decide, by decide +kernel⟩ ⟨by decide, by decide⟩) (preV (q := ("MacroReckoner$Whole", TWh, 2)) hK hP hD hS hA (XC_ok dS) hX [1, 2] rfl rfl 0 rfl rfl) rfl rfl hl.1 rfl (lv_room (Nat.le_of_ble_eq_true rfl)) dAr_raise_61 ⟨Nat.zero_le _, Nat.zero_le _⟩) hP hD hS hA [1, 2] [0, 3, 4, 5, 6] rfl (fun v_ => wAr dA ar xR la ra sa qa (wWh dA la lg L9 l9 (wWh dA ra rg R9 r9 (wWh dA a ga Fa ua [])))) (fun _ => rfl) (wAr dA ar xR la ra sa qa (wWh dA ra rg R9 r9 (wWh dA a ga Fa ua []))) rfl (fun _ => rfl) [ar, la, lg, ra, rg, a, ga] rfl (fun _ => rfl) (fun _ => rfl) (fun r61 u_ H locs hq61 hP hD hS => ?_)
        have hP : va_P (dC, dI) vwCl (wAr dA ar xR la ra sa qa (wWh dA la lg L9 l9 (wWh dA ra rg R9 r9 (wWh dA a ga Fa ua [])))) H := hP
        have hD : va_D A (wAr dA ar xR la ra sa qa (wWh dA la lg L9 l9 (wWh dA ra rg R9 r9 (wWh dA a ga Fa ua [])))) := hD
        have hq61 : DL (PW M i) r61 := hq61
        have hdl := WR_dl hJ hq61
        refine lv_sipush (v := iI 200) hx hb dAr_raise_64 (by decide) ?_
        refine iv_icmp_gt (tgt := 74) hx hb dAr_raise_67 (by decide) ⟨by omega, by omega⟩ ⟨by decide, by decide⟩ (fun hc67 => ?_) (fun hc67 => ?_)
        · refine lv_iconst (v := iI 0) hx hb dAr_raise_74 rfl ?_
          exact rt_z hx hb hr hlocks hK hS dAr_raise_75 (nrw_bool (by omega)) (L9, l9, R9, r9) hP hD (show WR L9 l9 (PW M tm) ∧ 0 = 1 ∧ PW M tm < PW 10 200 ∨ 0 = 0 ∧ PW 10 200 ≤ PW M tm from by first | (have e : i = tm := (by omega); rw [e] at hJ hq61; first | exact Or.inl ⟨hJ, rfl, DL_lt hq61 (by omega)⟩ | exact Or.inr ⟨rfl, DL_ge hq61 (by decide) (by omega)⟩) | exact Or.inr ⟨rfl, pow_mono hM0 hi.1 hi.2 (DL_ge hq61 (by decide) (by omega))⟩ | exact absurd (DL_u hq19 hq61) (by omega))
        · refine lv_iconst (v := iI 1) hx hb dAr_raise_70 rfl ?_
          refine lv_goto (tgt := 75) hx hb dAr_raise_71 (by decide) ?_
          exact rt_z hx hb hr hlocks hK hS dAr_raise_75 (nrw_bool (by omega)) (L9, l9, R9, r9) hP hD (show WR L9 l9 (PW M tm) ∧ 1 = 1 ∧ PW M tm < PW 10 200 ∨ 1 = 0 ∧ PW 10 200 ≤ PW M tm from by first | (have e : i = tm := (by omega); rw [e] at hJ hq61; first | exact Or.inl ⟨hJ, rfl, DL_lt hq61 (by omega)⟩ | exact Or.inr ⟨rfl, DL_ge hq61 (by decide) (by omega)⟩) | exact Or.inr ⟨rfl, pow_mono hM0 hi.1 hi.2 (DL_ge hq61 (by decide) (by omega))⟩ | exact absurd (DL_u hq19 hq61) (by omega))
      · refine lv_aload_n hx hb dAr_raise_15 rfl (lv_at hl 1 rfl) ?_
        refine va_get (D := (dC, dI)) (ci := 0) (v := .ref la) (C := "MacroReckoner$Arithmetic") (T := TAr) (N := 5) hx hb hts inAr hown hK hP 0 rfl rfl 1 (by decide) (hts _ wt1_143) (fun _ h9 => h9) rfl dAr_raise_16 ?_
        refine cv_i (va_runV (C := "MacroReckoner$Whole") (As := []) (rest := []) ⟨hx, hb, hml, hown, hts⟩ (cWh_size l dC dI dA dS la lg L9 l9 (PW M i) (by exact hJ) H.size) (cwV 0 hts (gdV wt3_87 wt3_31 wt3_32 wt1_5 wt3_33) rfl rfl rfl ⟨rfl, by decide, by decide, by decide +kernel⟩ ⟨by decide, by decide⟩) (preV (q := ("MacroReckoner$Whole", TWh, 2)) hK hP hD hS hA (XC_ok dS) hX [1, 2] rfl rfl 0 rfl rfl) rfl rfl hl.1 rfl (lv_room (Nat.le_of_ble_eq_true rfl)) dAr_raise_19 ⟨Nat.zero_le _, Nat.zero_le _⟩) hP hD hS hA [1, 2] [0, 3, 4, 5, 6] rfl (fun v_ => wAr dA ar xR la ra sa qa (wWh dA la lg L9 l9 (wWh dA ra rg R9 r9 (wWh dA a ga Fa ua [])))) (fun _ => rfl) (wAr dA ar xR la ra sa qa (wWh dA ra rg R9 r9 (wWh dA a ga Fa ua []))) rfl (fun _ => rfl) [ar, la, lg, ra, rg, a, ga] rfl (fun _ => rfl) (fun _ => rfl) (fun r19 u_ H locs hq19 hP hD hS => ?_)
        have hP : va_P (dC, dI) vwCl (wAr dA ar xR la ra sa qa (wWh dA la lg L9 l9 (wWh dA ra rg R9 r9 (wWh dA a ga Fa ua [])))) H := hP
        have hD : va_D A (wAr dA ar xR la ra sa qa (wWh dA la lg L9 l9 (wWh dA ra rg R9 r9 (wWh dA a ga Fa ua [])))) := hD
        have hq19 : DL (PW M i) r19 := hq19
        have hdl := WR_dl hJ hq19
        refine lv_sipush (v := iI 200) hx hb dAr_raise_22 (by decide) ?_
        refine iv_icmp_gt (tgt := 57) hx hb dAr_raise_25 (by decide) ⟨by omega, by omega⟩ ⟨by decide, by decide⟩ (fun hc25 => ?_) (fun hc25 => ?_)
        · refine lv_aload_n hx hb dAr_raise_57 rfl (lv_at hl 1 rfl) ?_
          refine va_get (D := (dC, dI)) (ci := 0) (v := .ref la) (C := "MacroReckoner$Arithmetic") (T := TAr) (N := 5) hx hb hts inAr hown hK hP 0 rfl rfl 1 (by decide) (hts _ wt1_143) (fun _ h9 => h9) rfl dAr_raise_58 ?_
          refine cv_i (va_runV (C := "MacroReckoner$Whole") (As := []) (rest := []) ⟨hx, hb, hml, hown, hts⟩ (cWh_size l dC dI dA dS la lg L9 l9 (PW M i) (by exact hJ) H.size) (cwV 0 hts (gdV wt3_87 wt3_31 wt3_32 wt1_5 wt3_33) rfl rfl rfl ⟨rfl, by decide, by decide, by decide +kernel⟩ ⟨by decide, by decide⟩) (preV (q := ("MacroReckoner$Whole", TWh, 2)) hK hP hD hS hA (XC_ok dS) hX [1, 2] rfl rfl 0 rfl rfl) rfl rfl hl.1 rfl (lv_room (Nat.le_of_ble_eq_true rfl)) dAr_raise_61 ⟨Nat.zero_le _, Nat.zero_le _⟩) hP hD hS hA [1, 2] [0, 3, 4, 5, 6] rfl (fun v_ => wAr dA ar xR la ra sa qa (wWh dA la lg L9 l9 (wWh dA ra rg R9 r9 (wWh dA a ga Fa ua [])))) (fun _ => rfl) (wAr dA ar xR la ra sa qa (wWh dA ra rg R9 r9 (wWh dA a ga Fa ua []))) rfl (fun _ => rfl) [ar, la, lg, ra, rg, a, ga] rfl (fun _ => rfl) (fun _ => rfl) (fun r61 u_ H locs hq61 hP hD hS => ?_)
          have hP : va_P (dC, dI) vwCl (wAr dA ar xR la ra sa qa (wWh dA la lg L9 l9 (wWh dA ra rg R9 r9 (wWh dA a ga Fa ua [])))) H := hP
          have hD : va_D A (wAr dA ar xR la ra sa qa (wWh dA la lg L9 l9 (wWh dA ra rg R9 r9 (wWh dA a ga Fa ua [])))) := hD
          have hq61 : DL (PW M i) r61 := hq61
          have hdl := WR_dl hJ hq61
          refine lv_sipush (v := iI 200) hx hb dAr_raise_64 (by decide) ?_
          refine iv_icmp_gt (tgt := 74) hx hb dAr_raise_67 (by decide) ⟨by omega, by omega⟩ ⟨by decide, by decide⟩ (fun hc67 => ?_) (fun hc67 => ?_)
          · refine lv_iconst (v := iI 0) hx hb dAr_raise_74 rfl ?_
            exact rt_z hx hb hr hlocks hK hS dAr_raise_75 (nrw_bool (by omega)) (L9, l9, R9, r9) hP hD (show WR L9 l9 (PW M tm) ∧ 0 = 1 ∧ PW M tm < PW 10 200 ∨ 0 = 0 ∧ PW 10 200 ≤ PW M tm from by first | (have e : i = tm := (by omega); rw [e] at hJ hq61; first | exact Or.inl ⟨hJ, rfl, DL_lt hq61 (by omega)⟩ | exact Or.inr ⟨rfl, DL_ge hq61 (by decide) (by omega)⟩) | exact Or.inr ⟨rfl, pow_mono hM0 hi.1 hi.2 (DL_ge hq61 (by decide) (by omega))⟩ | exact absurd (DL_u hq19 hq61) (by omega))
          · refine lv_iconst (v := iI 1) hx hb dAr_raise_70 rfl ?_
            refine lv_goto (tgt := 75) hx hb dAr_raise_71 (by decide) ?_
            exact rt_z hx hb hr hlocks hK hS dAr_raise_75 (nrw_bool (by omega)) (L9, l9, R9, r9) hP hD (show WR L9 l9 (PW M tm) ∧ 1 = 1 ∧ PW M tm < PW 10 200 ∨ 1 = 0 ∧ PW 10 200 ≤ PW M tm from by first | (have e : i = tm := (by omega); rw [e] at hJ hq61; first | exact Or.inl ⟨hJ, rfl, DL_lt hq61 (by omega)⟩ | exact Or.inr ⟨rfl, DL_ge hq61 (by decide) (by omega)⟩) | exact Or.inr ⟨rfl, pow_mono hM0 hi.1 hi.2 (DL_ge hq61 (by decide) (by omega))⟩ | exact absurd (DL_u hq19 hq61) (by omega))
        · refine lv_aload_n hx hb dAr_raise_28 rfl (lv_at hl 1 rfl) ?_
          refine va_get (D := (dC, dI)) (ci := 0) (v := .ref ra) (C := "MacroReckoner$Arithmetic") (T := TAr) (N := 5) hx hb hts inAr hown hK hP 0 rfl rfl 2 (by decide) (hts _ wt1_144) (fun _ h9 => h9) rfl dAr_raise_29 ?_
          refine lv_aload_n hx hb dAr_raise_32 rfl (lv_at hl 1 rfl) ?_
          refine va_get (D := (dC, dI)) (ci := 0) (v := .ref la) (C := "MacroReckoner$Arithmetic") (T := TAr) (N := 5) hx hb hts inAr hown hK hP 0 rfl rfl 1 (by decide) (hts _ wt1_143) (fun _ h9 => h9) rfl dAr_raise_33 ?_
          refine lv_aload_n hx hb dAr_raise_36 rfl (lv_at hl 2 rfl) ?_
          refine cv_v (va_runV (C := "MacroReckoner$Whole") (As := [.ref la, .ref a]) (rest := []) ⟨hx, hb, hml, hown, hts⟩ (cWh_becomeProduct l dC dI dA ra rg R9 r9 la lg L9 l9 (PW M i) a ga Fa ua M (by exact hJ) (by exact hW) (by have := u200 hJ (DL_lt hq19 (by omega)); omega) H.size) (cwV 2 hts (gdV wt3_109 wt3_110 wt3_111 wt1_5 wt3_112) rfl rfl rfl ⟨rfl, by decide, by decide, by decide +kernel⟩ ⟨by decide, by decide⟩) (preV (q := ("MacroReckoner$Whole", TWh, 2)) hK hP hD hS hA XN_ok trivial [3, 4, 1, 2, 5, 6] rfl rfl 0 rfl rfl) rfl rfl hl.1 rfl (lv_room (Nat.le_of_ble_eq_true rfl)) dAr_raise_37 ⟨Nat.zero_le _, Nat.zero_le _⟩) hP hD hS hA [3, 4, 1, 2, 5, 6] [0] rfl (fun v_ => wAr dA ar xR la ra sa qa (wWh dA la lg L9 l9 (wWh dA ra rg v_.1 v_.2 (wWh dA a ga Fa ua [])))) (fun _ => rfl) (wAr dA ar xR la ra sa qa []) rfl (fun _ => rfl) [ar, la, lg, ra, rg, a, ga] rfl (fun _ => rfl) (fun _ => rfl) (fun u_ H locs hq37 hP hD hS => ?_)
          obtain ⟨RB, rub⟩ := u_
          have hP : va_P (dC, dI) vwCl (wAr dA ar xR la ra sa qa (wWh dA la lg L9 l9 (wWh dA ra rg RB rub (wWh dA a ga Fa ua [])))) H := hP
          have hD : va_D A (wAr dA ar xR la ra sa qa (wWh dA la lg L9 l9 (wWh dA ra rg RB rub (wWh dA a ga Fa ua [])))) := hD
          have hq37 : WR RB rub ((PW M i) * M) := hq37
          refine lv_aload_n hx hb dAr_raise_40 rfl (lv_at hl 1 rfl) ?_
          refine va_get (D := (dC, dI)) (ci := 0) (v := .ref la) (C := "MacroReckoner$Arithmetic") (T := TAr) (N := 5) hx hb hts inAr hown hK hP 0 rfl rfl 1 (by decide) (hts _ wt1_143) (fun _ h9 => h9) rfl dAr_raise_41 ?_
          refine lv_aload_n hx hb dAr_raise_44 rfl (lv_at hl 1 rfl) ?_
          refine va_get (D := (dC, dI)) (ci := 0) (v := .ref ra) (C := "MacroReckoner$Arithmetic") (T := TAr) (N := 5) hx hb hts inAr hown hK hP 0 rfl rfl 2 (by decide) (hts _ wt1_144) (fun _ h9 => h9) rfl dAr_raise_45 ?_
          refine cv_v (va_runV (C := "MacroReckoner$Whole") (As := [.ref ra]) (rest := []) ⟨hx, hb, hml, hown, hts⟩ (cWh_become l dC dI dA la lg L9 l9 ra rg RB rub (PW M i * M) (by exact hq37) H.size) (cwV 1 hts (gdV wt3_71 wt3_45 wt3_46 wt1_5 wt3_47) rfl rfl rfl ⟨rfl, by decide, by decide, by decide +kernel⟩ ⟨by decide, by decide⟩) (preV (q := ("MacroReckoner$Whole", TWh, 2)) hK hP hD hS hA XN_ok trivial [1, 2, 3, 4] rfl rfl 0 rfl rfl) rfl rfl hl.1 rfl (lv_room (Nat.le_of_ble_eq_true rfl)) dAr_raise_48 ⟨Nat.zero_le _, Nat.zero_le _⟩) hP hD hS hA [1, 2, 3, 4] [0, 5, 6] rfl (fun v_ => wAr dA ar xR la ra sa qa (wWh dA la lg v_ rub (wWh dA ra rg RB rub (wWh dA a ga Fa ua [])))) (fun _ => rfl) (wAr dA ar xR la ra sa qa (wWh dA a ga Fa ua [])) rfl (fun _ => rfl) [ar, la, lg, ra, rg, a, ga] rfl (fun _ => rfl) (fun _ => rfl) (fun u_ H locs hq48 hP hD hS => ?_)
          obtain ⟨LB, rfl⟩ : ∃ z, z = u_ := ⟨_, rfl⟩
          have hP : va_P (dC, dI) vwCl (wAr dA ar xR la ra sa qa (wWh dA la lg LB rub (wWh dA ra rg RB rub (wWh dA a ga Fa ua [])))) H := hP
          have hD : va_D A (wAr dA ar xR la ra sa qa (wWh dA la lg LB rub (wWh dA ra rg RB rub (wWh dA a ga Fa ua [])))) := hD
          have hq48 : WR LB rub (PW M i * M) := hq48
          refine lv_iinc (k := 0) (lv' := [(3, .int (iI (i + 1))), (0, .ref ar), (1, .ref a), (2, .int (iI tm))]) (v := iI (i + 1)) hx hb dAr_raise_51 hl rfl (iI_add _ _).symm (by decide) rfl (fun ls hl => ?_)
          refine lv_goto (tgt := 10) hx hb dAr_raise_54 (by decide) ?_
          exact ih10 LB rub RB rub (i + 1) H locs ls (by omega) (by rw [PW_s hi.1]; exact hq48) (by omega) hP hD hS (lv_sub hl [0, 1, 2, 3] rfl)
  exact L10 _ LA lua RF ru 0 H locs ls (by omega) (by rw [PW_0]; exact hq5) (Nat.lt_succ_self _) hP hD hS (lv_sub hl [0, 1, 2, 3] rfl)
