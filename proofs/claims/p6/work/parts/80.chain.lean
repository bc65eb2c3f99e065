noncomputable section KV80_chain
/-! THE RUN PUT TOGETHER (printed by wip/ev2/fin2.py). -/
theorem k_rP : k_R (ev_mc 47 k_E11) k_xP0 k_xP66 := (k_R_of k_tP0).trans ((k_R_of k_tP1).trans ((k_R_of k_tP2).trans ((k_R_of k_tP3).trans ((k_R_of k_tP4).trans ((k_R_of k_tP5).trans ((k_R_of k_tP6).trans ((k_R_of k_tP7).trans ((k_R_of k_tP8).trans ((k_R_of k_tP9).trans ((k_R_of k_tP10).trans ((k_R_of k_tP11).trans ((k_R_of k_tP12).trans ((k_R_of k_tP13).trans ((k_R_of k_tP14).trans ((k_R_of k_tP15).trans ((k_R_of k_tP16).trans ((k_R_of k_tP17).trans ((k_R_of k_tP18).trans ((k_R_of k_tP19).trans ((k_R_of k_tP20).trans ((k_R_of k_tP21).trans ((k_R_of k_tP22).trans ((k_R_of k_tP23).trans ((k_R_of k_tP24).trans ((k_R_of k_tP25).trans ((k_R_of k_tP26).trans ((k_R_of k_tP27).trans ((k_R_of k_tP28).trans ((k_R_of k_tP29).trans ((k_R_of k_tP30).trans ((k_R_of k_tP31).trans ((k_R_of k_tP32).trans ((k_R_of k_tP33).trans ((k_R_of k_tP34).trans ((k_R_of k_tP35).trans ((k_R_of k_tP36).trans ((k_R_of k_tP37).trans ((k_R_of k_tP38).trans ((k_R_of k_tP39).trans ((k_R_of k_tP40).trans ((k_R_of k_tP41).trans ((k_R_of k_tP42).trans ((k_R_of k_tP43).trans ((k_R_of k_tP44).trans ((k_R_of k_tP45).trans ((k_R_of k_tP46).trans ((k_R_of k_tP47).trans ((k_R_of k_tP48).trans ((k_R_of k_tP49).trans ((k_R_of k_tP50).trans ((k_R_of k_tP51).trans ((k_R_of k_tP52).trans ((k_R_of k_tP53).trans ((k_R_of k_tP54).trans ((k_R_of k_tP55).trans ((k_R_of k_tP56).trans ((k_R_of k_tP57).trans ((k_R_of k_tP58).trans ((k_R_of k_tP59).trans ((k_R_of k_tP60).trans ((k_R_of k_tP61).trans ((k_R_of k_tP62).trans ((k_R_of k_tP63).trans ((k_R_of k_tP64).trans (k_R_of k_tP65)))))))))))))))))))))))))))))))))))))))))))))))))))))))))))))))))
theorem k_eP : k_ck (ev_mc 47 k_E11) 0 (0, ([], ev_ent (ev_nL 47) k_asP, k_h0P, (0, 0))) k_xP0 = true := by decide +kernel
set_option maxRecDepth 20000 in
theorem k_pP : ev_mc 47 k_E11 217 = some (.inr 2) := rfl
theorem k_rR : k_R (ev_mc 13 k_E3) k_xR0 k_xR3 := (k_R_of k_tR0).trans ((k_R_of k_tR1).trans (k_R_of k_tR2))
theorem k_eR : k_ck (ev_mc 13 k_E3) 0 (0, ([], ev_ent (ev_nL 13) k_asR, k_h0R, (0, 0))) k_xR0 = true := by decide +kernel
set_option maxRecDepth 20000 in
theorem k_pR : ev_mc 13 k_E3 100 = some (.inr 1) := rfl
theorem k_rL : k_R (ev_mL k_E1 636 k_bx) k_xL0 k_xL10 := (k_R_of k_tL0).trans ((k_R_of k_tL1).trans ((k_R_of k_tL2).trans ((k_R_of k_tL3).trans ((k_R_of k_tL4).trans ((k_R_of k_tL5).trans ((k_R_of k_tL6).trans ((k_R_of k_tL7).trans ((k_R_of k_tL8).trans (k_R_of k_tL9)))))))))
theorem k_eL : k_ck (ev_mL k_E1 636 k_bx) 0 (0, ([], ev_ent 7 [ev_ext 3000], (0, ev_e0 5), (0, 0))) k_xL0 = true := by decide +kernel
theorem k_s17 {l : Launch} {D : va_G} {A : Nat → Prop} {ex : Nat → Value} (hl0 : l.stackTraces = false) : ev_Snd l D ev_cl A ex ev_ty (ev_XT A ex) ev_y ev_ws ev_cm ev_sm 17 k_E11 := k_Mv_ok (fuel := 100000) (k_tallA hl0) 11
theorem k_s18 {l : Launch} {D : va_G} {A : Nat → Prop} {ex : Nat → Value} (hl0 : l.stackTraces = false) : ev_Snd l D ev_cl A ex ev_ty (ev_XT A ex) ev_y ev_ws ev_cm ev_sm 18 k_E3 := ev_alt_ok (k_plug_ok (k_tallA hl0) (by decide) (k_s17 hl0) (mid0 := 47) (as0 := k_asP) (h0 := k_h0P) (h1 := k_h1P) (rv := k_rvP) (by decide +kernel) ((k_R_of k_eP).trans k_rP) k_pP rfl (by decide +kernel) (by decide +kernel)) (k_Mv_ok (fuel := 100000) (k_tallA hl0) 12)
theorem k_s19 {l : Launch} {D : va_G} {A : Nat → Prop} {ex : Nat → Value} (hl0 : l.stackTraces = false) : ev_Snd l D ev_cl A ex ev_ty (ev_XT A ex) ev_y ev_ws ev_cm ev_sm 19 k_E2 := ev_alt_ok (k_plug_ok (k_tallA hl0) (by decide) (k_s18 hl0) (mid0 := 13) (as0 := k_asR) (h0 := k_h0R) (h1 := k_h1R) (rv := k_rvR) (by decide +kernel) ((k_R_of k_eR).trans k_rR) k_pR rfl (by decide +kernel) (by decide +kernel)) (k_Lv_ok (fuel := 100000) (k_tallA hl0) (by decide) (k_s18 hl0))
theorem k_s20 {l : Launch} {D : va_G} {A : Nat → Prop} {ex : Nat → Value} (hl0 : l.stackTraces = false) : ev_Snd l D ev_cl A ex ev_ty (ev_XT A ex) ev_y ev_ws ev_cm ev_sm 20 k_E1 := k_Lv_ok (fuel := 100000) (k_tallA hl0) (by decide) (k_s19 hl0)
theorem k_sB {l : Launch} {D : va_G} {A : Nat → Prop} {ex : Nat → Value} (d : Nat) : ev_Snd l D ev_cl A ex ev_ty (ev_XT A ex) ev_y ev_ws ev_cm ev_sm d (k_Ef d) := k_Mv_ok (fuel := 100000) k_tallB d
theorem k_sN {l : Launch} {D : va_G} {A : Nat → Prop} {ex : Nat → Value} (d : Nat) : ev_Snd l D ev_cl A ex ev_ty (ev_XT A ex) ev_y ev_ws ev_cm ev_sm d (fun _ _ _ => none) := fun mid as h rv h9 hE => by cases hE
theorem k_g79 {l : Launch} {D : va_G} {A : Nat → Prop} {ex : Nat → Value} : k_Gp l D ev_cl A ex ev_ty (ev_XT A ex) ev_y ev_b ev_nL ev_ws k_z79 := by
  show k_G l D ev_cl A ex ev_ty (ev_XT A ex) ev_y ev_b ev_nL ev_ws 150 k_z79.2.1 k_z79.2.2.1 0 35889 582151 7116494
  exact k_G_R k_tallB (d := 0) (Nat.zero_le _) (k_sN 0) (Or.inr ⟨rfl, fun _ _ _ => rfl⟩) (Or.inl rfl) (by decide) (by decide +kernel) (by decide +kernel) k_ex150 (x := (k_z79.2.1, k_z79.2.2.1)) (y := k_xZ) (k_R_of k_tZ) (k_bot k_hopZ rfl)
theorem k_g78 {l : Launch} {D : va_G} {A : Nat → Prop} {ex : Nat → Value} : k_Gp l D ev_cl A ex ev_ty (ev_XT A ex) ev_y ev_b ev_nL ev_ws k_z78 := k_dck_ok k_tallB k_sB k_sites_ok k_u78 k_g79
theorem k_g77 {l : Launch} {D : va_G} {A : Nat → Prop} {ex : Nat → Value} : k_Gp l D ev_cl A ex ev_ty (ev_XT A ex) ev_y ev_b ev_nL ev_ws k_z77 := k_dck_ok k_tallB k_sB k_sites_ok k_u77 k_g78
theorem k_g76 {l : Launch} {D : va_G} {A : Nat → Prop} {ex : Nat → Value} : k_Gp l D ev_cl A ex ev_ty (ev_XT A ex) ev_y ev_b ev_nL ev_ws k_z76 := k_dck_ok k_tallB k_sB k_sites_ok k_u76 k_g77
theorem k_g75 {l : Launch} {D : va_G} {A : Nat → Prop} {ex : Nat → Value} : k_Gp l D ev_cl A ex ev_ty (ev_XT A ex) ev_y ev_b ev_nL ev_ws k_z75 := k_dck_ok k_tallB k_sB k_sites_ok k_u75 k_g76
theorem k_g74 {l : Launch} {D : va_G} {A : Nat → Prop} {ex : Nat → Value} : k_Gp l D ev_cl A ex ev_ty (ev_XT A ex) ev_y ev_b ev_nL ev_ws k_z74 := k_dck_ok k_tallB k_sB k_sites_ok k_u74 k_g75
theorem k_g73 {l : Launch} {D : va_G} {A : Nat → Prop} {ex : Nat → Value} : k_Gp l D ev_cl A ex ev_ty (ev_XT A ex) ev_y ev_b ev_nL ev_ws k_z73 := k_dck_ok k_tallB k_sB k_sites_ok k_u73 k_g74
theorem k_g72 {l : Launch} {D : va_G} {A : Nat → Prop} {ex : Nat → Value} : k_Gp l D ev_cl A ex ev_ty (ev_XT A ex) ev_y ev_b ev_nL ev_ws k_z72 := k_dck_ok k_tallB k_sB k_sites_ok k_u72 k_g73
theorem k_g71 {l : Launch} {D : va_G} {A : Nat → Prop} {ex : Nat → Value} : k_Gp l D ev_cl A ex ev_ty (ev_XT A ex) ev_y ev_b ev_nL ev_ws k_z71 := k_dck_ok k_tallB k_sB k_sites_ok k_u71 k_g72
theorem k_g70 {l : Launch} {D : va_G} {A : Nat → Prop} {ex : Nat → Value} : k_Gp l D ev_cl A ex ev_ty (ev_XT A ex) ev_y ev_b ev_nL ev_ws k_z70 := k_dck_ok k_tallB k_sB k_sites_ok k_u70 k_g71
theorem k_g69 {l : Launch} {D : va_G} {A : Nat → Prop} {ex : Nat → Value} : k_Gp l D ev_cl A ex ev_ty (ev_XT A ex) ev_y ev_b ev_nL ev_ws k_z69 := k_dck_ok k_tallB k_sB k_sites_ok k_u69 k_g70
theorem k_g68 {l : Launch} {D : va_G} {A : Nat → Prop} {ex : Nat → Value} : k_Gp l D ev_cl A ex ev_ty (ev_XT A ex) ev_y ev_b ev_nL ev_ws k_z68 := k_dck_ok k_tallB k_sB k_sites_ok k_u68 k_g69
theorem k_g67 {l : Launch} {D : va_G} {A : Nat → Prop} {ex : Nat → Value} : k_Gp l D ev_cl A ex ev_ty (ev_XT A ex) ev_y ev_b ev_nL ev_ws k_z67 := k_dck_ok k_tallB k_sB k_sites_ok k_u67 k_g68
theorem k_g66 {l : Launch} {D : va_G} {A : Nat → Prop} {ex : Nat → Value} : k_Gp l D ev_cl A ex ev_ty (ev_XT A ex) ev_y ev_b ev_nL ev_ws k_z66 := k_dck_ok k_tallB k_sB k_sites_ok k_u66 k_g67
theorem k_g65 {l : Launch} {D : va_G} {A : Nat → Prop} {ex : Nat → Value} : k_Gp l D ev_cl A ex ev_ty (ev_XT A ex) ev_y ev_b ev_nL ev_ws k_z65 := k_dck_ok k_tallB k_sB k_sites_ok k_u65 k_g66
theorem k_g64 {l : Launch} {D : va_G} {A : Nat → Prop} {ex : Nat → Value} : k_Gp l D ev_cl A ex ev_ty (ev_XT A ex) ev_y ev_b ev_nL ev_ws k_z64 := k_dck_ok k_tallB k_sB k_sites_ok k_u64 k_g65
theorem k_g63 {l : Launch} {D : va_G} {A : Nat → Prop} {ex : Nat → Value} : k_Gp l D ev_cl A ex ev_ty (ev_XT A ex) ev_y ev_b ev_nL ev_ws k_z63 := k_dck_ok k_tallB k_sB k_sites_ok k_u63 k_g64
theorem k_g62 {l : Launch} {D : va_G} {A : Nat → Prop} {ex : Nat → Value} : k_Gp l D ev_cl A ex ev_ty (ev_XT A ex) ev_y ev_b ev_nL ev_ws k_z62 := k_dck_ok k_tallB k_sB k_sites_ok k_u62 k_g63
theorem k_g61 {l : Launch} {D : va_G} {A : Nat → Prop} {ex : Nat → Value} : k_Gp l D ev_cl A ex ev_ty (ev_XT A ex) ev_y ev_b ev_nL ev_ws k_z61 := k_dck_ok k_tallB k_sB k_sites_ok k_u61 k_g62
theorem k_g60 {l : Launch} {D : va_G} {A : Nat → Prop} {ex : Nat → Value} : k_Gp l D ev_cl A ex ev_ty (ev_XT A ex) ev_y ev_b ev_nL ev_ws k_z60 := k_dck_ok k_tallB k_sB k_sites_ok k_u60 k_g61
theorem k_g59 {l : Launch} {D : va_G} {A : Nat → Prop} {ex : Nat → Value} : k_Gp l D ev_cl A ex ev_ty (ev_XT A ex) ev_y ev_b ev_nL ev_ws k_z59 := k_dck_ok k_tallB k_sB k_sites_ok k_u59 k_g60
theorem k_g58 {l : Launch} {D : va_G} {A : Nat → Prop} {ex : Nat → Value} : k_Gp l D ev_cl A ex ev_ty (ev_XT A ex) ev_y ev_b ev_nL ev_ws k_z58 := k_dck_ok k_tallB k_sB k_sites_ok k_u58 k_g59
theorem k_g57 {l : Launch} {D : va_G} {A : Nat → Prop} {ex : Nat → Value} : k_Gp l D ev_cl A ex ev_ty (ev_XT A ex) ev_y ev_b ev_nL ev_ws k_z57 := k_dck_ok k_tallB k_sB k_sites_ok k_u57 k_g58
theorem k_g56 {l : Launch} {D : va_G} {A : Nat → Prop} {ex : Nat → Value} : k_Gp l D ev_cl A ex ev_ty (ev_XT A ex) ev_y ev_b ev_nL ev_ws k_z56 := k_dck_ok k_tallB k_sB k_sites_ok k_u56 k_g57
theorem k_g55 {l : Launch} {D : va_G} {A : Nat → Prop} {ex : Nat → Value} : k_Gp l D ev_cl A ex ev_ty (ev_XT A ex) ev_y ev_b ev_nL ev_ws k_z55 := k_dck_ok k_tallB k_sB k_sites_ok k_u55 k_g56
theorem k_g54 {l : Launch} {D : va_G} {A : Nat → Prop} {ex : Nat → Value} : k_Gp l D ev_cl A ex ev_ty (ev_XT A ex) ev_y ev_b ev_nL ev_ws k_z54 := k_dck_ok k_tallB k_sB k_sites_ok k_u54 k_g55
theorem k_g53 {l : Launch} {D : va_G} {A : Nat → Prop} {ex : Nat → Value} : k_Gp l D ev_cl A ex ev_ty (ev_XT A ex) ev_y ev_b ev_nL ev_ws k_z53 := k_dck_ok k_tallB k_sB k_sites_ok k_u53 k_g54
theorem k_g52 {l : Launch} {D : va_G} {A : Nat → Prop} {ex : Nat → Value} : k_Gp l D ev_cl A ex ev_ty (ev_XT A ex) ev_y ev_b ev_nL ev_ws k_z52 := k_dck_ok k_tallB k_sB k_sites_ok k_u52 k_g53
theorem k_g51 {l : Launch} {D : va_G} {A : Nat → Prop} {ex : Nat → Value} : k_Gp l D ev_cl A ex ev_ty (ev_XT A ex) ev_y ev_b ev_nL ev_ws k_z51 := k_dck_ok k_tallB k_sB k_sites_ok k_u51 k_g52
theorem k_g50 {l : Launch} {D : va_G} {A : Nat → Prop} {ex : Nat → Value} : k_Gp l D ev_cl A ex ev_ty (ev_XT A ex) ev_y ev_b ev_nL ev_ws k_z50 := k_dck_ok k_tallB k_sB k_sites_ok k_u50 k_g51
theorem k_g49 {l : Launch} {D : va_G} {A : Nat → Prop} {ex : Nat → Value} : k_Gp l D ev_cl A ex ev_ty (ev_XT A ex) ev_y ev_b ev_nL ev_ws k_z49 := k_dck_ok k_tallB k_sB k_sites_ok k_u49 k_g50
theorem k_g48 {l : Launch} {D : va_G} {A : Nat → Prop} {ex : Nat → Value} : k_Gp l D ev_cl A ex ev_ty (ev_XT A ex) ev_y ev_b ev_nL ev_ws k_z48 := k_dck_ok k_tallB k_sB k_sites_ok k_u48 k_g49
theorem k_g47 {l : Launch} {D : va_G} {A : Nat → Prop} {ex : Nat → Value} : k_Gp l D ev_cl A ex ev_ty (ev_XT A ex) ev_y ev_b ev_nL ev_ws k_z47 := k_dck_ok k_tallB k_sB k_sites_ok k_u47 k_g48
theorem k_g46 {l : Launch} {D : va_G} {A : Nat → Prop} {ex : Nat → Value} : k_Gp l D ev_cl A ex ev_ty (ev_XT A ex) ev_y ev_b ev_nL ev_ws k_z46 := k_dck_ok k_tallB k_sB k_sites_ok k_u46 k_g47
theorem k_g45 {l : Launch} {D : va_G} {A : Nat → Prop} {ex : Nat → Value} : k_Gp l D ev_cl A ex ev_ty (ev_XT A ex) ev_y ev_b ev_nL ev_ws k_z45 := k_dck_ok k_tallB k_sB k_sites_ok k_u45 k_g46
theorem k_g44 {l : Launch} {D : va_G} {A : Nat → Prop} {ex : Nat → Value} : k_Gp l D ev_cl A ex ev_ty (ev_XT A ex) ev_y ev_b ev_nL ev_ws k_z44 := k_dck_ok k_tallB k_sB k_sites_ok k_u44 k_g45
theorem k_g43 {l : Launch} {D : va_G} {A : Nat → Prop} {ex : Nat → Value} : k_Gp l D ev_cl A ex ev_ty (ev_XT A ex) ev_y ev_b ev_nL ev_ws k_z43 := k_dck_ok k_tallB k_sB k_sites_ok k_u43 k_g44
theorem k_g42 {l : Launch} {D : va_G} {A : Nat → Prop} {ex : Nat → Value} : k_Gp l D ev_cl A ex ev_ty (ev_XT A ex) ev_y ev_b ev_nL ev_ws k_z42 := k_dck_ok k_tallB k_sB k_sites_ok k_u42 k_g43
theorem k_g41 {l : Launch} {D : va_G} {A : Nat → Prop} {ex : Nat → Value} : k_Gp l D ev_cl A ex ev_ty (ev_XT A ex) ev_y ev_b ev_nL ev_ws k_z41 := k_dck_ok k_tallB k_sB k_sites_ok k_u41 k_g42
theorem k_g40 {l : Launch} {D : va_G} {A : Nat → Prop} {ex : Nat → Value} : k_Gp l D ev_cl A ex ev_ty (ev_XT A ex) ev_y ev_b ev_nL ev_ws k_z40 := k_dck_ok k_tallB k_sB k_sites_ok k_u40 k_g41
theorem k_g39 {l : Launch} {D : va_G} {A : Nat → Prop} {ex : Nat → Value} : k_Gp l D ev_cl A ex ev_ty (ev_XT A ex) ev_y ev_b ev_nL ev_ws k_z39 := k_dck_ok k_tallB k_sB k_sites_ok k_u39 k_g40
theorem k_g38 {l : Launch} {D : va_G} {A : Nat → Prop} {ex : Nat → Value} : k_Gp l D ev_cl A ex ev_ty (ev_XT A ex) ev_y ev_b ev_nL ev_ws k_z38 := k_dck_ok k_tallB k_sB k_sites_ok k_u38 k_g39
theorem k_g37 {l : Launch} {D : va_G} {A : Nat → Prop} {ex : Nat → Value} : k_Gp l D ev_cl A ex ev_ty (ev_XT A ex) ev_y ev_b ev_nL ev_ws k_z37 := k_dck_ok k_tallB k_sB k_sites_ok k_u37 k_g38
theorem k_g36 {l : Launch} {D : va_G} {A : Nat → Prop} {ex : Nat → Value} : k_Gp l D ev_cl A ex ev_ty (ev_XT A ex) ev_y ev_b ev_nL ev_ws k_z36 := k_dck_ok k_tallB k_sB k_sites_ok k_u36 k_g37
theorem k_g35 {l : Launch} {D : va_G} {A : Nat → Prop} {ex : Nat → Value} : k_Gp l D ev_cl A ex ev_ty (ev_XT A ex) ev_y ev_b ev_nL ev_ws k_z35 := k_dck_ok k_tallB k_sB k_sites_ok k_u35 k_g36
theorem k_g34 {l : Launch} {D : va_G} {A : Nat → Prop} {ex : Nat → Value} : k_Gp l D ev_cl A ex ev_ty (ev_XT A ex) ev_y ev_b ev_nL ev_ws k_z34 := k_dck_ok k_tallB k_sB k_sites_ok k_u34 k_g35
theorem k_g33 {l : Launch} {D : va_G} {A : Nat → Prop} {ex : Nat → Value} : k_Gp l D ev_cl A ex ev_ty (ev_XT A ex) ev_y ev_b ev_nL ev_ws k_z33 := k_dck_ok k_tallB k_sB k_sites_ok k_u33 k_g34
theorem k_g32 {l : Launch} {D : va_G} {A : Nat → Prop} {ex : Nat → Value} : k_Gp l D ev_cl A ex ev_ty (ev_XT A ex) ev_y ev_b ev_nL ev_ws k_z32 := k_dck_ok k_tallB k_sB k_sites_ok k_u32 k_g33
theorem k_g31 {l : Launch} {D : va_G} {A : Nat → Prop} {ex : Nat → Value} : k_Gp l D ev_cl A ex ev_ty (ev_XT A ex) ev_y ev_b ev_nL ev_ws k_z31 := k_dck_ok k_tallB k_sB k_sites_ok k_u31 k_g32
theorem k_g30 {l : Launch} {D : va_G} {A : Nat → Prop} {ex : Nat → Value} : k_Gp l D ev_cl A ex ev_ty (ev_XT A ex) ev_y ev_b ev_nL ev_ws k_z30 := k_dck_ok k_tallB k_sB k_sites_ok k_u30 k_g31
theorem k_g29 {l : Launch} {D : va_G} {A : Nat → Prop} {ex : Nat → Value} : k_Gp l D ev_cl A ex ev_ty (ev_XT A ex) ev_y ev_b ev_nL ev_ws k_z29 := k_dck_ok k_tallB k_sB k_sites_ok k_u29 k_g30
theorem k_g28 {l : Launch} {D : va_G} {A : Nat → Prop} {ex : Nat → Value} : k_Gp l D ev_cl A ex ev_ty (ev_XT A ex) ev_y ev_b ev_nL ev_ws k_z28 := k_dck_ok k_tallB k_sB k_sites_ok k_u28 k_g29
theorem k_g27 {l : Launch} {D : va_G} {A : Nat → Prop} {ex : Nat → Value} : k_Gp l D ev_cl A ex ev_ty (ev_XT A ex) ev_y ev_b ev_nL ev_ws k_z27 := k_dck_ok k_tallB k_sB k_sites_ok k_u27 k_g28
theorem k_g26 {l : Launch} {D : va_G} {A : Nat → Prop} {ex : Nat → Value} : k_Gp l D ev_cl A ex ev_ty (ev_XT A ex) ev_y ev_b ev_nL ev_ws k_z26 := k_dck_ok k_tallB k_sB k_sites_ok k_u26 k_g27
theorem k_g25 {l : Launch} {D : va_G} {A : Nat → Prop} {ex : Nat → Value} : k_Gp l D ev_cl A ex ev_ty (ev_XT A ex) ev_y ev_b ev_nL ev_ws k_z25 := k_dck_ok k_tallB k_sB k_sites_ok k_u25 k_g26
theorem k_g24 {l : Launch} {D : va_G} {A : Nat → Prop} {ex : Nat → Value} : k_Gp l D ev_cl A ex ev_ty (ev_XT A ex) ev_y ev_b ev_nL ev_ws k_z24 := k_dck_ok k_tallB k_sB k_sites_ok k_u24 k_g25
theorem k_g23 {l : Launch} {D : va_G} {A : Nat → Prop} {ex : Nat → Value} : k_Gp l D ev_cl A ex ev_ty (ev_XT A ex) ev_y ev_b ev_nL ev_ws k_z23 := k_dck_ok k_tallB k_sB k_sites_ok k_u23 k_g24
theorem k_g22 {l : Launch} {D : va_G} {A : Nat → Prop} {ex : Nat → Value} : k_Gp l D ev_cl A ex ev_ty (ev_XT A ex) ev_y ev_b ev_nL ev_ws k_z22 := k_dck_ok k_tallB k_sB k_sites_ok k_u22 k_g23
theorem k_g21 {l : Launch} {D : va_G} {A : Nat → Prop} {ex : Nat → Value} : k_Gp l D ev_cl A ex ev_ty (ev_XT A ex) ev_y ev_b ev_nL ev_ws k_z21 := k_dck_ok k_tallB k_sB k_sites_ok k_u21 k_g22
theorem k_g20 {l : Launch} {D : va_G} {A : Nat → Prop} {ex : Nat → Value} : k_Gp l D ev_cl A ex ev_ty (ev_XT A ex) ev_y ev_b ev_nL ev_ws k_z20 := k_dck_ok k_tallB k_sB k_sites_ok k_u20 k_g21
theorem k_g19 {l : Launch} {D : va_G} {A : Nat → Prop} {ex : Nat → Value} : k_Gp l D ev_cl A ex ev_ty (ev_XT A ex) ev_y ev_b ev_nL ev_ws k_z19 := k_dck_ok k_tallB k_sB k_sites_ok k_u19 k_g20
theorem k_g18 {l : Launch} {D : va_G} {A : Nat → Prop} {ex : Nat → Value} : k_Gp l D ev_cl A ex ev_ty (ev_XT A ex) ev_y ev_b ev_nL ev_ws k_z18 := k_dck_ok k_tallB k_sB k_sites_ok k_u18 k_g19
theorem k_g17 {l : Launch} {D : va_G} {A : Nat → Prop} {ex : Nat → Value} : k_Gp l D ev_cl A ex ev_ty (ev_XT A ex) ev_y ev_b ev_nL ev_ws k_z17 := k_dck_ok k_tallB k_sB k_sites_ok k_u17 k_g18
theorem k_g16 {l : Launch} {D : va_G} {A : Nat → Prop} {ex : Nat → Value} : k_Gp l D ev_cl A ex ev_ty (ev_XT A ex) ev_y ev_b ev_nL ev_ws k_z16 := k_dck_ok k_tallB k_sB k_sites_ok k_u16 k_g17
theorem k_g15 {l : Launch} {D : va_G} {A : Nat → Prop} {ex : Nat → Value} : k_Gp l D ev_cl A ex ev_ty (ev_XT A ex) ev_y ev_b ev_nL ev_ws k_z15 := k_dck_ok k_tallB k_sB k_sites_ok k_u15 k_g16
theorem k_g14 {l : Launch} {D : va_G} {A : Nat → Prop} {ex : Nat → Value} : k_Gp l D ev_cl A ex ev_ty (ev_XT A ex) ev_y ev_b ev_nL ev_ws k_z14 := k_dck_ok k_tallB k_sB k_sites_ok k_u14 k_g15
theorem k_g13 {l : Launch} {D : va_G} {A : Nat → Prop} {ex : Nat → Value} : k_Gp l D ev_cl A ex ev_ty (ev_XT A ex) ev_y ev_b ev_nL ev_ws k_z13 := k_dck_ok k_tallB k_sB k_sites_ok k_u13 k_g14
theorem k_g12 {l : Launch} {D : va_G} {A : Nat → Prop} {ex : Nat → Value} : k_Gp l D ev_cl A ex ev_ty (ev_XT A ex) ev_y ev_b ev_nL ev_ws k_z12 := k_dck_ok k_tallB k_sB k_sites_ok k_u12 k_g13
theorem k_g11 {l : Launch} {D : va_G} {A : Nat → Prop} {ex : Nat → Value} : k_Gp l D ev_cl A ex ev_ty (ev_XT A ex) ev_y ev_b ev_nL ev_ws k_z11 := k_dck_ok k_tallB k_sB k_sites_ok k_u11 k_g12
theorem k_g10 {l : Launch} {D : va_G} {A : Nat → Prop} {ex : Nat → Value} : k_Gp l D ev_cl A ex ev_ty (ev_XT A ex) ev_y ev_b ev_nL ev_ws k_z10 := k_dck_ok k_tallB k_sB k_sites_ok k_u10 k_g11
theorem k_g9 {l : Launch} {D : va_G} {A : Nat → Prop} {ex : Nat → Value} : k_Gp l D ev_cl A ex ev_ty (ev_XT A ex) ev_y ev_b ev_nL ev_ws k_z9 := k_dck_ok k_tallB k_sB k_sites_ok k_u9 k_g10
theorem k_g8 {l : Launch} {D : va_G} {A : Nat → Prop} {ex : Nat → Value} : k_Gp l D ev_cl A ex ev_ty (ev_XT A ex) ev_y ev_b ev_nL ev_ws k_z8 := k_dck_ok k_tallB k_sB k_sites_ok k_u8 k_g9
theorem k_g7 {l : Launch} {D : va_G} {A : Nat → Prop} {ex : Nat → Value} : k_Gp l D ev_cl A ex ev_ty (ev_XT A ex) ev_y ev_b ev_nL ev_ws k_z7 := k_dck_ok k_tallB k_sB k_sites_ok k_u7 k_g8
theorem k_g6 {l : Launch} {D : va_G} {A : Nat → Prop} {ex : Nat → Value} : k_Gp l D ev_cl A ex ev_ty (ev_XT A ex) ev_y ev_b ev_nL ev_ws k_z6 := k_dck_ok k_tallB k_sB k_sites_ok k_u6 k_g7
theorem k_g5 {l : Launch} {D : va_G} {A : Nat → Prop} {ex : Nat → Value} : k_Gp l D ev_cl A ex ev_ty (ev_XT A ex) ev_y ev_b ev_nL ev_ws k_z5 := k_dck_ok k_tallB k_sB k_sites_ok k_u5 k_g6
theorem k_g4 {l : Launch} {D : va_G} {A : Nat → Prop} {ex : Nat → Value} : k_Gp l D ev_cl A ex ev_ty (ev_XT A ex) ev_y ev_b ev_nL ev_ws k_z4 := k_dck_ok k_tallB k_sB k_sites_ok k_u4 k_g5
theorem k_g3 {l : Launch} {D : va_G} {A : Nat → Prop} {ex : Nat → Value} : k_Gp l D ev_cl A ex ev_ty (ev_XT A ex) ev_y ev_b ev_nL ev_ws k_z3 := k_dck_ok k_tallB k_sB k_sites_ok k_u3 k_g4
theorem k_g2 {l : Launch} {D : va_G} {A : Nat → Prop} {ex : Nat → Value} : k_Gp l D ev_cl A ex ev_ty (ev_XT A ex) ev_y ev_b ev_nL ev_ws k_z2 := by
  show k_G l D ev_cl A ex ev_ty (ev_XT A ex) ev_y ev_b ev_nL ev_ws 106 k_z2.2.1 k_z2.2.2.1 2046 83956 588265 7151149
  exact k_G_R k_tallB (d := k_d 2046) (Nat.zero_le _) (k_sB _) (Or.inl (by decide)) (Or.inr (by decide)) (by decide) (by decide +kernel) (by decide +kernel) k_ex106 (x := (k_z2.2.1, k_z2.2.2.1)) (y := (k_z3.2.1, k_z3.2.2.1)) (k_R_of k_u2) k_g3
theorem k_g1 {l : Launch} {D : va_G} {A : Nat → Prop} {ex : Nat → Value} : k_Gp l D ev_cl A ex ev_ty (ev_XT A ex) ev_y ev_b ev_nL ev_ws k_z1 := k_dck_ok k_tallB k_sB k_sites_ok k_u1 k_g2
theorem k_g0 {l : Launch} {D : va_G} {A : Nat → Prop} {ex : Nat → Value} : k_Gp l D ev_cl A ex ev_ty (ev_XT A ex) ev_y ev_b ev_nL ev_ws k_z0 := by
  show k_G l D ev_cl A ex ev_ty (ev_XT A ex) ev_y ev_b ev_nL ev_ws 105 k_z0.2.1 k_z0.2.2.1 2047 83978 588266 7153198
  exact k_G_R k_tallB (d := k_d 2047) (Nat.zero_le _) (k_sB _) (Or.inl (by decide)) (Or.inr (by decide)) (by decide) (by decide +kernel) (by decide +kernel) k_ex105 (x := (k_z0.2.1, k_z0.2.2.1)) (y := (k_z1.2.1, k_z1.2.2.1)) (k_R_of k_u0) k_g1
end KV80_chain
