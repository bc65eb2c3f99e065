noncomputable section KV7st_t
/-! RUNS as sorry, to try what lies behind. -/
theorem k_tP0 : k_ck (ev_mc 47 k_E11) 35 k_xP0 k_xP1 = true := by sorry
theorem k_tP1 : k_ck (ev_mc 47 k_E11) 2324 k_xP1 k_xP2 = true := by sorry
theorem k_tP2 : k_ck (ev_mc 47 k_E11) 2288 k_xP2 k_xP3 = true := by sorry
theorem k_tP3 : k_ck (ev_mc 47 k_E11) 2288 k_xP3 k_xP4 = true := by sorry
theorem k_tP4 : k_ck (ev_mc 47 k_E11) 2288 k_xP4 k_xP5 = true := by sorry
theorem k_tP5 : k_ck (ev_mc 47 k_E11) 2288 k_xP5 k_xP6 = true := by sorry
theorem k_tP6 : k_ck (ev_mc 47 k_E11) 2288 k_xP6 k_xP7 = true := by sorry
theorem k_tP7 : k_ck (ev_mc 47 k_E11) 2288 k_xP7 k_xP8 = true := by sorry
theorem k_tP8 : k_ck (ev_mc 47 k_E11) 2288 k_xP8 k_xP9 = true := by sorry
theorem k_tP9 : k_ck (ev_mc 47 k_E11) 2288 k_xP9 k_xP10 = true := by sorry
theorem k_tP10 : k_ck (ev_mc 47 k_E11) 2288 k_xP10 k_xP11 = true := by sorry
theorem k_tP11 : k_ck (ev_mc 47 k_E11) 2288 k_xP11 k_xP12 = true := by sorry
theorem k_tP12 : k_ck (ev_mc 47 k_E11) 2288 k_xP12 k_xP13 = true := by sorry
theorem k_tP13 : k_ck (ev_mc 47 k_E11) 2288 k_xP13 k_xP14 = true := by sorry
theorem k_tP14 : k_ck (ev_mc 47 k_E11) 2288 k_xP14 k_xP15 = true := by sorry
theorem k_tP15 : k_ck (ev_mc 47 k_E11) 2288 k_xP15 k_xP16 = true := by sorry
theorem k_tP16 : k_ck (ev_mc 47 k_E11) 2288 k_xP16 k_xP17 = true := by sorry
theorem k_tP17 : k_ck (ev_mc 47 k_E11) 2288 k_xP17 k_xP18 = true := by sorry
theorem k_tP18 : k_ck (ev_mc 47 k_E11) 2288 k_xP18 k_xP19 = true := by sorry
theorem k_tP19 : k_ck (ev_mc 47 k_E11) 2288 k_xP19 k_xP20 = true := by sorry
theorem k_tP20 : k_ck (ev_mc 47 k_E11) 2288 k_xP20 k_xP21 = true := by sorry
theorem k_tP21 : k_ck (ev_mc 47 k_E11) 2288 k_xP21 k_xP22 = true := by sorry
theorem k_tP22 : k_ck (ev_mc 47 k_E11) 2288 k_xP22 k_xP23 = true := by sorry
theorem k_tP23 : k_ck (ev_mc 47 k_E11) 2288 k_xP23 k_xP24 = true := by sorry
theorem k_tP24 : k_ck (ev_mc 47 k_E11) 2288 k_xP24 k_xP25 = true := by sorry
theorem k_tP25 : k_ck (ev_mc 47 k_E11) 2288 k_xP25 k_xP26 = true := by sorry
theorem k_tP26 : k_ck (ev_mc 47 k_E11) 2288 k_xP26 k_xP27 = true := by sorry
theorem k_tP27 : k_ck (ev_mc 47 k_E11) 2288 k_xP27 k_xP28 = true := by sorry
theorem k_tP28 : k_ck (ev_mc 47 k_E11) 2288 k_xP28 k_xP29 = true := by sorry
theorem k_tP29 : k_ck (ev_mc 47 k_E11) 2288 k_xP29 k_xP30 = true := by sorry
theorem k_tP30 : k_ck (ev_mc 47 k_E11) 2288 k_xP30 k_xP31 = true := by sorry
theorem k_tP31 : k_ck (ev_mc 47 k_E11) 2288 k_xP31 k_xP32 = true := by sorry
theorem k_tP32 : k_ck (ev_mc 47 k_E11) 2288 k_xP32 k_xP33 = true := by sorry
theorem k_tP33 : k_ck (ev_mc 47 k_E11) 2288 k_xP33 k_xP34 = true := by sorry
theorem k_tP34 : k_ck (ev_mc 47 k_E11) 2288 k_xP34 k_xP35 = true := by sorry
theorem k_tP35 : k_ck (ev_mc 47 k_E11) 2288 k_xP35 k_xP36 = true := by sorry
theorem k_tP36 : k_ck (ev_mc 47 k_E11) 2288 k_xP36 k_xP37 = true := by sorry
theorem k_tP37 : k_ck (ev_mc 47 k_E11) 2288 k_xP37 k_xP38 = true := by sorry
theorem k_tP38 : k_ck (ev_mc 47 k_E11) 2288 k_xP38 k_xP39 = true := by sorry
theorem k_tP39 : k_ck (ev_mc 47 k_E11) 2288 k_xP39 k_xP40 = true := by sorry
theorem k_tP40 : k_ck (ev_mc 47 k_E11) 2288 k_xP40 k_xP41 = true := by sorry
theorem k_tP41 : k_ck (ev_mc 47 k_E11) 2288 k_xP41 k_xP42 = true := by sorry
theorem k_tP42 : k_ck (ev_mc 47 k_E11) 2288 k_xP42 k_xP43 = true := by sorry
theorem k_tP43 : k_ck (ev_mc 47 k_E11) 2288 k_xP43 k_xP44 = true := by sorry
theorem k_tP44 : k_ck (ev_mc 47 k_E11) 2288 k_xP44 k_xP45 = true := by sorry
theorem k_tP45 : k_ck (ev_mc 47 k_E11) 2288 k_xP45 k_xP46 = true := by sorry
theorem k_tP46 : k_ck (ev_mc 47 k_E11) 2288 k_xP46 k_xP47 = true := by sorry
theorem k_tP47 : k_ck (ev_mc 47 k_E11) 2288 k_xP47 k_xP48 = true := by sorry
theorem k_tP48 : k_ck (ev_mc 47 k_E11) 2288 k_xP48 k_xP49 = true := by sorry
theorem k_tP49 : k_ck (ev_mc 47 k_E11) 2288 k_xP49 k_xP50 = true := by sorry
theorem k_tP50 : k_ck (ev_mc 47 k_E11) 2288 k_xP50 k_xP51 = true := by sorry
theorem k_tP51 : k_ck (ev_mc 47 k_E11) 2288 k_xP51 k_xP52 = true := by sorry
theorem k_tP52 : k_ck (ev_mc 47 k_E11) 2288 k_xP52 k_xP53 = true := by sorry
theorem k_tP53 : k_ck (ev_mc 47 k_E11) 2288 k_xP53 k_xP54 = true := by sorry
theorem k_tP54 : k_ck (ev_mc 47 k_E11) 2288 k_xP54 k_xP55 = true := by sorry
theorem k_tP55 : k_ck (ev_mc 47 k_E11) 2288 k_xP55 k_xP56 = true := by sorry
theorem k_tP56 : k_ck (ev_mc 47 k_E11) 2288 k_xP56 k_xP57 = true := by sorry
theorem k_tP57 : k_ck (ev_mc 47 k_E11) 2288 k_xP57 k_xP58 = true := by sorry
theorem k_tP58 : k_ck (ev_mc 47 k_E11) 2288 k_xP58 k_xP59 = true := by sorry
theorem k_tP59 : k_ck (ev_mc 47 k_E11) 2288 k_xP59 k_xP60 = true := by sorry
theorem k_tP60 : k_ck (ev_mc 47 k_E11) 2288 k_xP60 k_xP61 = true := by sorry
theorem k_tP61 : k_ck (ev_mc 47 k_E11) 2288 k_xP61 k_xP62 = true := by sorry
theorem k_tP62 : k_ck (ev_mc 47 k_E11) 2288 k_xP62 k_xP63 = true := by sorry
theorem k_tP63 : k_ck (ev_mc 47 k_E11) 2288 k_xP63 k_xP64 = true := by sorry
theorem k_tP64 : k_ck (ev_mc 47 k_E11) 2288 k_xP64 k_xP65 = true := by sorry
theorem k_tP65 : k_ck (ev_mc 47 k_E11) 108 k_xP65 k_xP66 = true := by sorry
theorem k_tR0 : k_ck (ev_mc 13 k_E3) 5 k_xR0 k_xR1 = true := by sorry
theorem k_tR1 : k_ck (ev_mc 13 k_E3) 6 k_xR1 k_xR2 = true := by sorry
theorem k_tR2 : k_ck (ev_mc 13 k_E3) 26 k_xR2 k_xR3 = true := by sorry
theorem k_tL0 : k_ck (ev_mL k_E1 636 k_bx) 4 k_xL0 k_xL1 = true := by sorry
theorem k_tL1 : k_ck (ev_mL k_E1 636 k_bx) 413 k_xL1 k_xL2 = true := by sorry
theorem k_tL2 : k_ck (ev_mL k_E1 636 k_bx) 994 k_xL2 k_xL3 = true := by sorry
theorem k_tL3 : k_ck (ev_mL k_E1 636 k_bx) 923 k_xL3 k_xL4 = true := by sorry
theorem k_tL4 : k_ck (ev_mL k_E1 636 k_bx) 1250 k_xL4 k_xL5 = true := by sorry
theorem k_tL5 : k_ck (ev_mL k_E1 636 k_bx) 596 k_xL5 k_xL6 = true := by sorry
theorem k_tL6 : k_ck (ev_mL k_E1 636 k_bx) 1250 k_xL6 k_xL7 = true := by sorry
theorem k_tL7 : k_ck (ev_mL k_E1 636 k_bx) 1235 k_xL7 k_xL8 = true := by sorry
theorem k_tL8 : k_ck (ev_mL k_E1 636 k_bx) 781 k_xL8 k_xL9 = true := by sorry
theorem k_tL9 : k_ck (ev_mL k_E1 636 k_bx) 30 k_xL9 k_xL10 = true := by sorry
theorem k_tZ : k_ck (k_mcB 150 (fun _ _ _ => none)) 3 (k_z79.2.1, k_z79.2.2.1) k_xZ = true := by sorry
theorem k_u0 : k_ck (k_mcB 105 (k_Ef (k_d 2047))) 10 (k_z0.2.1, k_z0.2.2.1) (k_z1.2.1, k_z1.2.2.1) = true := by sorry
theorem k_u1 : k_dck k_mcB k_Ef ev_nL ev_cm ev_sm k_sites [10] k_z1 k_z2 = true := by sorry
theorem k_u2 : k_ck (k_mcB 106 (k_Ef (k_d 2046))) 13 (k_z2.2.1, k_z2.2.2.1) (k_z3.2.1, k_z3.2.2.1) = true := by sorry
theorem k_u3 : k_dck k_mcB k_Ef ev_nL ev_cm ev_sm k_sites [10, 37, 1, 3, 88, 138, 91, 138, 91, 138, 91, 138, 91, 138, 91, 138, 91, 138, 91, 138, 91, 138, 91, 138, 91, 138, 91, 138, 91, 138] k_z3 k_z4 = true := by sorry
theorem k_u4 : k_dck k_mcB k_Ef ev_nL ev_cm ev_sm k_sites [91, 138, 91, 138, 91, 138, 91, 138, 91, 138, 91, 138, 91, 138, 91, 138, 91, 138, 91, 138, 91, 138, 91, 138, 91, 138, 91] k_z4 k_z5 = true := by sorry
theorem k_u5 : k_dck k_mcB k_Ef ev_nL ev_cm ev_sm k_sites [138, 91, 138, 91, 138, 91, 138, 91, 138, 91, 138, 91, 138, 91, 138, 91, 138, 91, 138, 91, 138, 91, 138, 91, 138, 91, 138] k_z5 k_z6 = true := by sorry
theorem k_u6 : k_dck k_mcB k_Ef ev_nL ev_cm ev_sm k_sites [91, 138, 91, 138, 91, 138, 91, 138, 91, 138, 91, 138, 91, 138, 91, 138, 91, 138, 91, 138, 91, 138, 91, 138, 91, 138, 91] k_z6 k_z7 = true := by sorry
theorem k_u7 : k_dck k_mcB k_Ef ev_nL ev_cm ev_sm k_sites [138, 91, 138, 91, 138, 91, 138, 91, 138, 91, 138, 91, 138, 91, 138, 91, 138, 91, 138, 91, 138, 91, 138, 91, 138, 91, 138] k_z7 k_z8 = true := by sorry
theorem k_u8 : k_dck k_mcB k_Ef ev_nL ev_cm ev_sm k_sites [91, 138, 91, 138, 91, 138, 91, 138, 91, 138, 91, 138, 91, 138, 91, 138, 91, 138, 91, 138, 91, 138, 91, 138, 91, 138, 91] k_z8 k_z9 = true := by sorry
theorem k_u9 : k_dck k_mcB k_Ef ev_nL ev_cm ev_sm k_sites [138, 91, 138, 91, 138, 91, 138, 91, 138, 91, 138, 91, 138, 91, 138, 91, 138, 91, 138, 91, 138, 91, 138, 91, 138, 91, 138] k_z9 k_z10 = true := by sorry
theorem k_u10 : k_dck k_mcB k_Ef ev_nL ev_cm ev_sm k_sites [91, 138, 91, 138, 91, 138, 91, 138, 91, 138, 91, 138, 91, 138, 91, 138, 91, 138, 91, 138, 91, 138, 91, 138, 91, 138, 91] k_z10 k_z11 = true := by sorry
theorem k_u11 : k_dck k_mcB k_Ef ev_nL ev_cm ev_sm k_sites [138, 91, 138, 91, 138, 91, 138, 91, 138, 91, 138, 91, 138, 91, 138, 91, 138, 91, 138, 91, 138, 91, 138, 91, 138, 91, 138] k_z11 k_z12 = true := by sorry
theorem k_u12 : k_dck k_mcB k_Ef ev_nL ev_cm ev_sm k_sites [91, 138, 91, 138, 91, 138, 91, 138, 91, 138, 91, 138, 91, 138, 91, 138, 91, 138, 91, 138, 91, 138, 91, 138, 91, 138, 91] k_z12 k_z13 = true := by sorry
theorem k_u13 : k_dck k_mcB k_Ef ev_nL ev_cm ev_sm k_sites [138, 91, 138, 91, 138, 91, 138, 91, 138, 91, 138, 91, 138, 91, 138, 91, 138, 91, 138, 91, 138, 91, 138, 91, 138, 91, 138] k_z13 k_z14 = true := by sorry
theorem k_u14 : k_dck k_mcB k_Ef ev_nL ev_cm ev_sm k_sites [91, 138, 91, 138, 91, 138, 91, 138, 91, 138, 91, 138, 91, 138, 91, 138, 91, 138, 91, 138, 91, 138, 91, 138, 91, 138, 91] k_z14 k_z15 = true := by sorry
theorem k_u15 : k_dck k_mcB k_Ef ev_nL ev_cm ev_sm k_sites [138, 91, 138, 91, 138, 91, 138, 91, 138, 91, 138, 91, 138, 91, 138, 91, 138, 91, 138, 91, 138, 91, 138, 91, 138, 91, 138] k_z15 k_z16 = true := by sorry
theorem k_u16 : k_dck k_mcB k_Ef ev_nL ev_cm ev_sm k_sites [91, 138, 91, 138, 91, 138, 91, 138, 91, 138, 91, 138, 91, 138, 91, 138, 91, 138, 91, 138, 91, 138, 91, 138, 91, 138, 91] k_z16 k_z17 = true := by sorry
theorem k_u17 : k_dck k_mcB k_Ef ev_nL ev_cm ev_sm k_sites [138, 91, 138, 91, 138, 91, 138, 91, 138, 91, 138, 91, 138, 91, 138, 91, 138, 91, 138, 91, 138, 91, 138, 91, 138, 91, 138] k_z17 k_z18 = true := by sorry
theorem k_u18 : k_dck k_mcB k_Ef ev_nL ev_cm ev_sm k_sites [91, 138, 91, 138, 91, 138, 91, 138, 91, 138, 91, 138, 91, 138, 91, 138, 91, 138, 91, 138, 91, 138, 91, 138, 91, 138, 91] k_z18 k_z19 = true := by sorry
theorem k_u19 : k_dck k_mcB k_Ef ev_nL ev_cm ev_sm k_sites [138, 91, 138, 91, 138, 91, 138, 91, 138, 91, 138, 91, 138, 91, 138, 91, 138, 91, 138, 91, 138, 91, 138, 91, 138, 91, 138] k_z19 k_z20 = true := by sorry
theorem k_u20 : k_dck k_mcB k_Ef ev_nL ev_cm ev_sm k_sites [91, 138, 91, 138, 91, 138, 91, 138, 91, 138, 91, 138, 91, 138, 91, 138, 91, 138, 91, 138, 91, 138, 91, 138, 91, 138, 91] k_z20 k_z21 = true := by sorry
theorem k_u21 : k_dck k_mcB k_Ef ev_nL ev_cm ev_sm k_sites [138, 91, 138, 91, 138, 91, 138, 91, 138, 91, 138, 91, 138, 91, 138, 91, 138, 91, 138, 91, 138, 91, 138, 91, 138, 91, 138] k_z21 k_z22 = true := by sorry
theorem k_u22 : k_dck k_mcB k_Ef ev_nL ev_cm ev_sm k_sites [91, 138, 91, 138, 91, 138, 91, 138, 91, 138, 91, 138, 91, 138, 91, 138, 91, 138, 91, 138, 91, 138, 91, 138, 91, 138, 91] k_z22 k_z23 = true := by sorry
theorem k_u23 : k_dck k_mcB k_Ef ev_nL ev_cm ev_sm k_sites [138, 91, 138, 91, 138, 91, 138, 91, 138, 91, 138, 91, 138, 91, 138, 91, 138, 91, 138, 91, 138, 91, 138, 91, 138, 91, 138] k_z23 k_z24 = true := by sorry
theorem k_u24 : k_dck k_mcB k_Ef ev_nL ev_cm ev_sm k_sites [91, 138, 91, 138, 91, 138, 91, 138, 91, 138, 91, 138, 91, 138, 91, 138, 91, 138, 91, 138, 91, 138, 91, 138, 91, 138, 91] k_z24 k_z25 = true := by sorry
theorem k_u25 : k_dck k_mcB k_Ef ev_nL ev_cm ev_sm k_sites [138, 91, 138, 91, 138, 91, 138, 91, 138, 91, 138, 91, 138, 91, 138, 91, 138, 91, 138, 91, 138, 91, 138, 91, 138, 91, 138] k_z25 k_z26 = true := by sorry
theorem k_u26 : k_dck k_mcB k_Ef ev_nL ev_cm ev_sm k_sites [91, 138, 91, 138, 91, 138, 91, 138, 91, 138, 91, 138, 91, 138, 91, 138, 91, 138, 91, 138, 91, 138, 91, 138, 91, 138, 91] k_z26 k_z27 = true := by sorry
theorem k_u27 : k_dck k_mcB k_Ef ev_nL ev_cm ev_sm k_sites [138, 91, 138, 91, 138, 91, 138, 91, 138, 91, 138, 91, 138, 91, 138, 91, 138, 91, 138, 91, 138, 91, 138, 91, 138, 91, 138] k_z27 k_z28 = true := by sorry
theorem k_u28 : k_dck k_mcB k_Ef ev_nL ev_cm ev_sm k_sites [91, 138, 91, 138, 91, 138, 91, 138, 91, 138, 91, 138, 91, 138, 91, 138, 91, 138, 91, 138, 91, 138, 91, 138, 91, 138, 91] k_z28 k_z29 = true := by sorry
theorem k_u29 : k_dck k_mcB k_Ef ev_nL ev_cm ev_sm k_sites [138, 91, 138, 91, 138, 91, 138, 91, 138, 91, 138, 91, 138, 91, 138, 91, 138, 91, 138, 91, 138, 91, 138, 91, 138, 91, 138] k_z29 k_z30 = true := by sorry
theorem k_u30 : k_dck k_mcB k_Ef ev_nL ev_cm ev_sm k_sites [91, 138, 91, 138, 91, 138, 91, 138, 91, 138, 91, 138, 91, 138, 91, 138, 91, 138, 91, 138, 91, 138, 91, 138, 91, 138, 91] k_z30 k_z31 = true := by sorry
theorem k_u31 : k_dck k_mcB k_Ef ev_nL ev_cm ev_sm k_sites [138, 91, 138, 91, 138, 91, 138, 91, 138, 91, 138, 91, 138, 91, 138, 91, 138, 91, 138, 91, 138, 91, 138, 91, 138, 91, 138] k_z31 k_z32 = true := by sorry
theorem k_u32 : k_dck k_mcB k_Ef ev_nL ev_cm ev_sm k_sites [91, 138, 91, 138, 91, 138, 91, 138, 91, 138, 91, 138, 91, 138, 91, 138, 91, 138, 91, 138, 91, 138, 91, 138, 91, 138, 91] k_z32 k_z33 = true := by sorry
theorem k_u33 : k_dck k_mcB k_Ef ev_nL ev_cm ev_sm k_sites [138, 91, 138, 91, 138, 91, 138, 91, 138, 91, 138, 91, 138, 91, 138, 91, 138, 91, 138, 91, 138, 91, 138, 91, 138, 91, 138] k_z33 k_z34 = true := by sorry
theorem k_u34 : k_dck k_mcB k_Ef ev_nL ev_cm ev_sm k_sites [91, 138, 91, 138, 91, 138, 91, 138, 91, 138, 91, 138, 91, 138, 91, 138, 91, 138, 91, 138, 91, 138, 91, 138, 91, 138, 91] k_z34 k_z35 = true := by sorry
theorem k_u35 : k_dck k_mcB k_Ef ev_nL ev_cm ev_sm k_sites [138, 91, 138, 91, 138, 91, 138, 91, 138, 91, 138, 91, 138, 91, 138, 91, 138, 91, 138, 91, 138, 91, 138, 91, 138, 91, 138] k_z35 k_z36 = true := by sorry
theorem k_u36 : k_dck k_mcB k_Ef ev_nL ev_cm ev_sm k_sites [91, 138, 91, 138, 91, 138, 91, 138, 91, 138, 91, 138, 91, 138, 91, 138, 91, 138, 91, 138, 91, 138, 91, 138, 91, 138, 91] k_z36 k_z37 = true := by sorry
theorem k_u37 : k_dck k_mcB k_Ef ev_nL ev_cm ev_sm k_sites [138, 91, 138, 91, 138, 91, 138, 91, 138, 91, 138, 91, 138, 91, 138, 91, 138, 91, 138, 91, 138, 91, 138, 91, 138, 91, 138] k_z37 k_z38 = true := by sorry
theorem k_u38 : k_dck k_mcB k_Ef ev_nL ev_cm ev_sm k_sites [91, 138, 91, 138, 91, 138, 91, 138, 91, 138, 91, 138, 91, 138, 91, 138, 91, 138, 91, 138, 91, 138, 91, 138, 91, 138, 91] k_z38 k_z39 = true := by sorry
theorem k_u39 : k_dck k_mcB k_Ef ev_nL ev_cm ev_sm k_sites [138, 91, 138, 91, 138, 91, 138, 91, 138, 91, 138, 91, 138, 91, 138, 91, 138, 91, 138, 91, 138, 91, 138, 91, 138, 91, 138] k_z39 k_z40 = true := by sorry
theorem k_u40 : k_dck k_mcB k_Ef ev_nL ev_cm ev_sm k_sites [91, 138, 91, 138, 91, 138, 91, 138, 91, 138, 91, 138, 91, 138, 91, 138, 91, 138, 91, 138, 91, 138, 91, 138, 91, 138, 91] k_z40 k_z41 = true := by sorry
theorem k_u41 : k_dck k_mcB k_Ef ev_nL ev_cm ev_sm k_sites [138, 91, 138, 91, 138, 91, 138, 91, 138, 91, 138, 91, 138, 91, 138, 91, 138, 91, 138, 91, 138, 91, 138, 91, 138, 91, 138] k_z41 k_z42 = true := by sorry
theorem k_u42 : k_dck k_mcB k_Ef ev_nL ev_cm ev_sm k_sites [91, 138, 91, 138, 91, 138, 91, 138, 91, 138, 91, 138, 91, 138, 91, 138, 91, 138, 91, 138, 91, 138, 91, 138, 91, 138, 91] k_z42 k_z43 = true := by sorry
theorem k_u43 : k_dck k_mcB k_Ef ev_nL ev_cm ev_sm k_sites [138, 91, 138, 91, 138, 91, 138, 91, 138, 91, 138, 91, 138, 91, 138, 91, 138, 91, 138, 91, 138, 91, 138, 91, 138, 91, 138] k_z43 k_z44 = true := by sorry
theorem k_u44 : k_dck k_mcB k_Ef ev_nL ev_cm ev_sm k_sites [91, 138, 91, 138, 91, 138, 91, 138, 91, 138, 91, 138, 91, 138, 91, 138, 91, 138, 91, 138, 91, 138, 91, 138, 91, 138, 91] k_z44 k_z45 = true := by sorry
theorem k_u45 : k_dck k_mcB k_Ef ev_nL ev_cm ev_sm k_sites [138, 91, 138, 91, 138, 91, 138, 91, 138, 91, 138, 91, 138, 91, 138, 91, 138, 91, 138, 91, 138, 91, 138, 91, 138, 91, 138] k_z45 k_z46 = true := by sorry
theorem k_u46 : k_dck k_mcB k_Ef ev_nL ev_cm ev_sm k_sites [91, 138, 91, 138, 91, 138, 91, 138, 91, 138, 91, 138, 91, 138, 91, 138, 91, 138, 91, 138, 91, 138, 91, 138, 91, 138, 91] k_z46 k_z47 = true := by sorry
theorem k_u47 : k_dck k_mcB k_Ef ev_nL ev_cm ev_sm k_sites [138, 91, 138, 91, 138, 91, 138, 91, 138, 91, 138, 91, 138, 91, 138, 91, 138, 91, 138, 91, 138, 91, 138, 91, 138, 91, 138] k_z47 k_z48 = true := by sorry
theorem k_u48 : k_dck k_mcB k_Ef ev_nL ev_cm ev_sm k_sites [91, 138, 91, 138, 91, 138, 91, 138, 91, 138, 91, 138, 91, 138, 91, 138, 91, 138, 91, 138, 91, 138, 91, 138, 91, 138, 91] k_z48 k_z49 = true := by sorry
theorem k_u49 : k_dck k_mcB k_Ef ev_nL ev_cm ev_sm k_sites [138, 91, 138, 91, 138, 91, 138, 91, 138, 91, 138, 91, 138, 91, 138, 91, 138, 91, 138, 91, 138, 91, 138, 91, 138, 91, 138] k_z49 k_z50 = true := by sorry
theorem k_u50 : k_dck k_mcB k_Ef ev_nL ev_cm ev_sm k_sites [91, 138, 91, 138, 91, 138, 91, 138, 91, 138, 91, 138, 91, 138, 91, 138, 91, 138, 91, 138, 91, 138, 91, 138, 91, 138, 91] k_z50 k_z51 = true := by sorry
theorem k_u51 : k_dck k_mcB k_Ef ev_nL ev_cm ev_sm k_sites [138, 91, 138, 91, 138, 91, 138, 91, 138, 91, 138, 91, 138, 91, 138, 91, 138, 91, 138, 91, 138, 91, 138, 91, 138, 91, 138] k_z51 k_z52 = true := by sorry
theorem k_u52 : k_dck k_mcB k_Ef ev_nL ev_cm ev_sm k_sites [91, 138, 91, 138, 91, 138, 91, 138, 91, 138, 91, 138, 91, 138, 91, 138, 91, 138, 91, 138, 91, 138, 91, 138, 91, 138, 91] k_z52 k_z53 = true := by sorry
theorem k_u53 : k_dck k_mcB k_Ef ev_nL ev_cm ev_sm k_sites [138, 91, 138, 91, 138, 91, 138, 91, 138, 91, 138, 91, 138, 91, 138, 91, 138, 91, 138, 91, 138, 91, 138, 91, 138, 91, 138] k_z53 k_z54 = true := by sorry
theorem k_u54 : k_dck k_mcB k_Ef ev_nL ev_cm ev_sm k_sites [91, 138, 91, 138, 91, 138, 91, 138, 91, 138, 91, 138, 91, 138, 91, 138, 91, 138, 91, 138, 91, 138, 91, 138, 91, 138, 91] k_z54 k_z55 = true := by sorry
theorem k_u55 : k_dck k_mcB k_Ef ev_nL ev_cm ev_sm k_sites [138, 91, 138, 91, 138, 91, 138, 91, 138, 91, 138, 91, 138, 91, 138, 91, 138, 91, 138, 91, 138, 91, 138, 91, 138, 91, 138] k_z55 k_z56 = true := by sorry
theorem k_u56 : k_dck k_mcB k_Ef ev_nL ev_cm ev_sm k_sites [91, 138, 91, 138, 91, 138, 91, 138, 91, 138, 91, 138, 91, 138, 91, 138, 91, 138, 91, 138, 91, 138, 91, 138, 91, 138, 91] k_z56 k_z57 = true := by sorry
theorem k_u57 : k_dck k_mcB k_Ef ev_nL ev_cm ev_sm k_sites [138, 91, 138, 91, 138, 91, 138, 91, 138, 91, 138, 91, 138, 91, 138, 91, 138, 91, 138, 91, 138, 91, 138, 91, 138, 91, 138] k_z57 k_z58 = true := by sorry
theorem k_u58 : k_dck k_mcB k_Ef ev_nL ev_cm ev_sm k_sites [91, 138, 91, 138, 91, 138, 91, 138, 91, 138, 91, 138, 91, 138, 91, 138, 91, 138, 91, 138, 91, 138, 91, 138, 91, 138, 91] k_z58 k_z59 = true := by sorry
theorem k_u59 : k_dck k_mcB k_Ef ev_nL ev_cm ev_sm k_sites [138, 91, 138, 91, 138, 91, 138, 91, 138, 91, 138, 91, 138, 91, 138, 91, 138, 91, 138, 91, 138, 91, 138, 91, 138, 91, 138] k_z59 k_z60 = true := by sorry
theorem k_u60 : k_dck k_mcB k_Ef ev_nL ev_cm ev_sm k_sites [91, 138, 91, 138, 91, 138, 91, 138, 91, 138, 91, 138, 91, 138, 91, 138, 91, 138, 91, 138, 91, 138, 91, 138, 91, 138, 91] k_z60 k_z61 = true := by sorry
theorem k_u61 : k_dck k_mcB k_Ef ev_nL ev_cm ev_sm k_sites [138, 91, 138, 91, 138, 91, 138, 91, 138, 91, 138, 91, 138, 91, 138, 91, 138, 91, 138, 91, 138, 91, 138, 91, 138, 91, 138] k_z61 k_z62 = true := by sorry
theorem k_u62 : k_dck k_mcB k_Ef ev_nL ev_cm ev_sm k_sites [91, 138, 91, 138, 91, 138, 91, 138, 91, 138, 91, 138, 91, 138, 91, 138, 91, 138, 91, 138, 91, 138, 91, 138, 91, 138, 91] k_z62 k_z63 = true := by sorry
theorem k_u63 : k_dck k_mcB k_Ef ev_nL ev_cm ev_sm k_sites [138, 91, 138, 91, 138, 91, 138, 91, 138, 91, 138, 91, 138, 91, 138, 91, 138, 91, 138, 91, 138, 91, 138, 91, 138, 91, 138] k_z63 k_z64 = true := by sorry
theorem k_u64 : k_dck k_mcB k_Ef ev_nL ev_cm ev_sm k_sites [91, 138, 91, 138, 91, 138, 91, 138, 91, 138, 91, 138, 91, 138, 91, 138, 91, 138, 91, 138, 91, 138, 91, 138, 91, 138, 91] k_z64 k_z65 = true := by sorry
theorem k_u65 : k_dck k_mcB k_Ef ev_nL ev_cm ev_sm k_sites [138, 91, 138, 91, 138, 91, 138, 91, 138, 91, 138, 91, 138, 91, 138, 91, 138, 91, 138, 91, 138, 91, 138, 91, 138, 91, 138] k_z65 k_z66 = true := by sorry
theorem k_u66 : k_dck k_mcB k_Ef ev_nL ev_cm ev_sm k_sites [91, 138, 91, 138, 91, 138, 91, 138, 91, 138, 91, 138, 91, 138, 91, 138, 91, 138, 91, 138, 91, 138, 91, 138, 91, 138, 91] k_z66 k_z67 = true := by sorry
theorem k_u67 : k_dck k_mcB k_Ef ev_nL ev_cm ev_sm k_sites [138, 91, 138, 91, 138, 91, 138, 91, 138, 91, 138, 91, 138, 91, 138, 91, 138, 91, 138, 91, 138, 91, 138, 91, 138, 91, 138] k_z67 k_z68 = true := by sorry
theorem k_u68 : k_dck k_mcB k_Ef ev_nL ev_cm ev_sm k_sites [91, 138, 91, 138, 91, 138, 91, 138, 91, 138, 91, 138, 91, 138, 91, 138, 91, 138, 91, 138, 91, 138, 91, 138, 91, 138, 91] k_z68 k_z69 = true := by sorry
theorem k_u69 : k_dck k_mcB k_Ef ev_nL ev_cm ev_sm k_sites [138, 91, 138, 91, 138, 91, 138, 91, 138, 91, 138, 91, 138, 91, 138, 91, 138, 91, 138, 91, 138, 91, 138, 91, 138, 91, 138] k_z69 k_z70 = true := by sorry
theorem k_u70 : k_dck k_mcB k_Ef ev_nL ev_cm ev_sm k_sites [91, 138, 91, 138, 91, 138, 91, 138, 91, 138, 91, 138, 91, 138, 91, 138, 91, 138, 91, 138, 91, 138, 91, 138, 91, 138, 91] k_z70 k_z71 = true := by sorry
theorem k_u71 : k_dck k_mcB k_Ef ev_nL ev_cm ev_sm k_sites [138, 91, 138, 91, 138, 91, 138, 91, 138, 91, 138, 91, 138, 91, 138, 91, 138, 91, 138, 91, 138, 91, 138, 91, 138, 91, 138] k_z71 k_z72 = true := by sorry
theorem k_u72 : k_dck k_mcB k_Ef ev_nL ev_cm ev_sm k_sites [91, 138, 91, 138, 91, 138, 91, 138, 91, 138, 91, 138, 91, 138, 91, 138, 91, 138, 91, 138, 91, 138, 91, 138, 91, 138, 91] k_z72 k_z73 = true := by sorry
theorem k_u73 : k_dck k_mcB k_Ef ev_nL ev_cm ev_sm k_sites [138, 91, 138, 91, 138, 91, 138, 91, 138, 91, 138, 91, 138, 91, 138, 91, 138, 91, 138, 91, 138, 91, 138, 91, 138, 91, 138] k_z73 k_z74 = true := by sorry
theorem k_u74 : k_dck k_mcB k_Ef ev_nL ev_cm ev_sm k_sites [91, 138, 91, 138, 91, 138, 91, 138, 91, 138, 91, 138, 91, 138, 91, 138, 91, 138, 91, 138, 91, 138, 91, 138, 91, 138, 91] k_z74 k_z75 = true := by sorry
theorem k_u75 : k_dck k_mcB k_Ef ev_nL ev_cm ev_sm k_sites [138, 91, 138, 91, 138, 91, 138, 91, 138, 91, 138, 91, 138, 91, 138, 91, 138, 91, 138, 91, 138, 91, 138, 91, 138, 91, 138] k_z75 k_z76 = true := by sorry
theorem k_u76 : k_dck k_mcB k_Ef ev_nL ev_cm ev_sm k_sites [91, 138, 91, 138, 91, 138, 91, 138, 91, 138, 91, 138, 91, 138, 91, 138, 91, 138, 91, 138, 91, 138, 91, 138, 91, 138, 91] k_z76 k_z77 = true := by sorry
theorem k_u77 : k_dck k_mcB k_Ef ev_nL ev_cm ev_sm k_sites [138, 91, 138, 91, 138, 91, 138, 91, 138, 91, 138, 91, 138, 91, 138, 91, 138, 91, 138, 91, 138, 91, 138, 91, 138, 91, 138] k_z77 k_z78 = true := by sorry
theorem k_u78 : k_dck k_mcB k_Ef ev_nL ev_cm ev_sm k_sites [91, 138, 91, 138, 91, 138, 91, 138, 91, 138, 91, 138, 21, 16, 2, 18, 6, 3] k_z78 k_z79 = true := by sorry
end KV7st_t
