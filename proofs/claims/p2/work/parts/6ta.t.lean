/-! test -/
set_option maxRecDepth 100000 in
theorem k_u6 : k_dck k_mcB k_Ef ev_nL ev_cm ev_sm k_sites [91, 138, 91, 138, 91, 138, 91, 138, 91, 138, 91, 138, 91, 138, 91, 138, 91, 138, 91, 138, 91, 138, 91, 138, 91, 138, 91] k_z6 k_z7 = true := by decide +kernel
set_option maxRecDepth 100000 in
theorem k_tL0 : k_ck (ev_mL k_E1 636 k_bx) 4 k_xL0 k_xL1 = true := by decide +kernel
set_option maxRecDepth 100000 in
theorem k_u78 : k_dck k_mcB k_Ef ev_nL ev_cm ev_sm k_sites [91, 138, 91, 138, 91, 138, 91, 138, 91, 138, 91, 138, 21, 16, 2, 18, 6, 3] k_z78 k_z79 = true := by decide +kernel
/-! RUNS (printed by wip/ev2/fin2.py). -/
theorem k_tZ : k_ck (k_mcB 150 (fun _ _ _ => none)) 3 (k_z79.2.1, k_z79.2.2.1) k_xZ = true := by decide +kernel
