noncomputable section KV723_runs
/-! RUNS (printed by wip/ev2/fin2.py). -/
set_option maxRecDepth 100000 in
theorem k_u53 : k_dck k_mcB k_Ef ev_nL ev_cm ev_sm k_sites [138, 91, 138, 91, 138, 91, 138, 91, 138, 91, 138, 91, 138, 91, 138, 91, 138, 91, 138, 91, 138, 91, 138, 91, 138, 91, 138] k_z53 k_z54 = true := by decide +kernel
set_option maxRecDepth 100000 in
theorem k_u54 : k_dck k_mcB k_Ef ev_nL ev_cm ev_sm k_sites [91, 138, 91, 138, 91, 138, 91, 138, 91, 138, 91, 138, 91, 138, 91, 138, 91, 138, 91, 138, 91, 138, 91, 138, 91, 138, 91] k_z54 k_z55 = true := by decide +kernel
set_option maxRecDepth 100000 in
theorem k_u55 : k_dck k_mcB k_Ef ev_nL ev_cm ev_sm k_sites [138, 91, 138, 91, 138, 91, 138, 91, 138, 91, 138, 91, 138, 91, 138, 91, 138, 91, 138, 91, 138, 91, 138, 91, 138, 91, 138] k_z55 k_z56 = true := by decide +kernel
set_option maxRecDepth 100000 in
theorem k_u56 : k_dck k_mcB k_Ef ev_nL ev_cm ev_sm k_sites [91, 138, 91, 138, 91, 138, 91, 138, 91, 138, 91, 138, 91, 138, 91, 138, 91, 138, 91, 138, 91, 138, 91, 138, 91, 138, 91] k_z56 k_z57 = true := by decide +kernel
set_option maxRecDepth 100000 in
theorem k_u57 : k_dck k_mcB k_Ef ev_nL ev_cm ev_sm k_sites [138, 91, 138, 91, 138, 91, 138, 91, 138, 91, 138, 91, 138, 91, 138, 91, 138, 91, 138, 91, 138, 91, 138, 91, 138, 91, 138] k_z57 k_z58 = true := by decide +kernel
set_option maxRecDepth 100000 in
theorem k_u58 : k_dck k_mcB k_Ef ev_nL ev_cm ev_sm k_sites [91, 138, 91, 138, 91, 138, 91, 138, 91, 138, 91, 138, 91, 138, 91, 138, 91, 138, 91, 138, 91, 138, 91, 138, 91, 138, 91] k_z58 k_z59 = true := by decide +kernel
set_option maxRecDepth 100000 in
theorem k_u59 : k_dck k_mcB k_Ef ev_nL ev_cm ev_sm k_sites [138, 91, 138, 91, 138, 91, 138, 91, 138, 91, 138, 91, 138, 91, 138, 91, 138, 91, 138, 91, 138, 91, 138, 91, 138, 91, 138] k_z59 k_z60 = true := by decide +kernel
end KV723_runs
