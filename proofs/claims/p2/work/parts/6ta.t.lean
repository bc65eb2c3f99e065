/-! test -/
set_option maxRecDepth 100000 in
theorem k_tP0 : k_ck (ev_mc 47 k_E11) 35 k_xP0 k_xP1 = true := by decide +kernel
set_option maxRecDepth 100000 in
theorem k_tL1 : k_ck (ev_mL k_E1 636 k_bx) 404 k_xL1 k_xL2 = true := by decide +kernel
set_option maxRecDepth 100000 in
theorem k_tL2 : k_ck (ev_mL k_E1 636 k_bx) 966 k_xL2 k_xL3 = true := by decide +kernel
set_option maxRecDepth 100000 in
theorem k_tR0 : k_ck (ev_mc 13 k_E3) 5 k_xR0 k_xR1 = true := by decide +kernel
set_option maxRecDepth 100000 in
theorem k_tR1 : k_ck (ev_mc 13 k_E3) 6 k_xR1 k_xR2 = true := by decide +kernel
set_option maxRecDepth 100000 in
theorem k_u1 : k_dck k_mcB k_Ef ev_nL ev_cm ev_sm k_sites [10] k_z1 k_z2 = true := by decide +kernel
set_option maxRecDepth 100000 in
theorem k_u3 : k_dck k_mcB k_Ef ev_nL ev_cm ev_sm k_sites [10, 37, 1, 3, 88, 138, 91, 138, 91, 138, 91, 138, 91, 138, 91, 138, 91, 138, 91, 138, 91, 138, 91, 138, 91, 138, 91, 138, 91, 138] k_z3 k_z4 = true := by decide +kernel
set_option maxRecDepth 100000 in
theorem k_u4 : k_dck k_mcB k_Ef ev_nL ev_cm ev_sm k_sites [91, 138, 91, 138, 91, 138, 91, 138, 91, 138, 91, 138, 91, 138, 91, 138, 91, 138, 91, 138, 91, 138, 91, 138, 91, 138, 91] k_z4 k_z5 = true := by decide +kernel
set_option maxRecDepth 100000 in
theorem k_u5 : k_dck k_mcB k_Ef ev_nL ev_cm ev_sm k_sites [138, 91, 138, 91, 138, 91, 138, 91, 138, 91, 138, 91, 138, 91, 138, 91, 138, 91, 138, 91, 138, 91, 138, 91, 138, 91, 138] k_z5 k_z6 = true := by decide +kernel
