noncomputable section KV721_runs
/-! RUNS (printed by wip/ev2/fin2.py). -/
set_option maxRecDepth 100000 in
theorem k_u39 : k_dck k_mcB k_Ef ev_nL ev_cm ev_sm k_sites [138, 91, 138, 91, 138, 91, 138, 91, 138, 91, 138, 91, 138, 91, 138, 91, 138, 91, 138, 91, 138, 91, 138, 91, 138, 91, 138] k_z39 k_z40 = true := by decide +kernel
set_option maxRecDepth 100000 in
theorem k_u40 : k_dck k_mcB k_Ef ev_nL ev_cm ev_sm k_sites [91, 138, 91, 138, 91, 138, 91, 138, 91, 138, 91, 138, 91, 138, 91, 138, 91, 138, 91, 138, 91, 138, 91, 138, 91, 138, 91] k_z40 k_z41 = true := by decide +kernel
set_option maxRecDepth 100000 in
theorem k_u41 : k_dck k_mcB k_Ef ev_nL ev_cm ev_sm k_sites [138, 91, 138, 91, 138, 91, 138, 91, 138, 91, 138, 91, 138, 91, 138, 91, 138, 91, 138, 91, 138, 91, 138, 91, 138, 91, 138] k_z41 k_z42 = true := by decide +kernel
set_option maxRecDepth 100000 in
theorem k_u42 : k_dck k_mcB k_Ef ev_nL ev_cm ev_sm k_sites [91, 138, 91, 138, 91, 138, 91, 138, 91, 138, 91, 138, 91, 138, 91, 138, 91, 138, 91, 138, 91, 138, 91, 138, 91, 138, 91] k_z42 k_z43 = true := by decide +kernel
set_option maxRecDepth 100000 in
theorem k_u43 : k_dck k_mcB k_Ef ev_nL ev_cm ev_sm k_sites [138, 91, 138, 91, 138, 91, 138, 91, 138, 91, 138, 91, 138, 91, 138, 91, 138, 91, 138, 91, 138, 91, 138, 91, 138, 91, 138] k_z43 k_z44 = true := by decide +kernel
set_option maxRecDepth 100000 in
theorem k_u44 : k_dck k_mcB k_Ef ev_nL ev_cm ev_sm k_sites [91, 138, 91, 138, 91, 138, 91, 138, 91, 138, 91, 138, 91, 138, 91, 138, 91, 138, 91, 138, 91, 138, 91, 138, 91, 138, 91] k_z44 k_z45 = true := by decide +kernel
set_option maxRecDepth 100000 in
theorem k_u45 : k_dck k_mcB k_Ef ev_nL ev_cm ev_sm k_sites [138, 91, 138, 91, 138, 91, 138, 91, 138, 91, 138, 91, 138, 91, 138, 91, 138, 91, 138, 91, 138, 91, 138, 91, 138, 91, 138] k_z45 k_z46 = true := by decide +kernel
end KV721_runs
