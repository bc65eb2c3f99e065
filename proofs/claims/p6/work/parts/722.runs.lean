noncomputable section KV722_runs
/-! RUNS (printed by wip/ev2/fin2.py). -/
set_option maxRecDepth 100000 in
theorem k_u46 : k_dck k_mcB k_Ef ev_nL ev_cm ev_sm k_sites [91, 138, 91, 138, 91, 138, 91, 138, 91, 138, 91, 138, 91, 138, 91, 138, 91, 138, 91, 138, 91, 138, 91, 138, 91, 138, 91] k_z46 k_z47 = true := by decide +kernel
set_option maxRecDepth 100000 in
theorem k_u47 : k_dck k_mcB k_Ef ev_nL ev_cm ev_sm k_sites [138, 91, 138, 91, 138, 91, 138, 91, 138, 91, 138, 91, 138, 91, 138, 91, 138, 91, 138, 91, 138, 91, 138, 91, 138, 91, 138] k_z47 k_z48 = true := by decide +kernel
set_option maxRecDepth 100000 in
theorem k_u48 : k_dck k_mcB k_Ef ev_nL ev_cm ev_sm k_sites [91, 138, 91, 138, 91, 138, 91, 138, 91, 138, 91, 138, 91, 138, 91, 138, 91, 138, 91, 138, 91, 138, 91, 138, 91, 138, 91] k_z48 k_z49 = true := by decide +kernel
set_option maxRecDepth 100000 in
theorem k_u49 : k_dck k_mcB k_Ef ev_nL ev_cm ev_sm k_sites [138, 91, 138, 91, 138, 91, 138, 91, 138, 91, 138, 91, 138, 91, 138, 91, 138, 91, 138, 91, 138, 91, 138, 91, 138, 91, 138] k_z49 k_z50 = true := by decide +kernel
set_option maxRecDepth 100000 in
theorem k_u50 : k_dck k_mcB k_Ef ev_nL ev_cm ev_sm k_sites [91, 138, 91, 138, 91, 138, 91, 138, 91, 138, 91, 138, 91, 138, 91, 138, 91, 138, 91, 138, 91, 138, 91, 138, 91, 138, 91] k_z50 k_z51 = true := by decide +kernel
set_option maxRecDepth 100000 in
theorem k_u51 : k_dck k_mcB k_Ef ev_nL ev_cm ev_sm k_sites [138, 91, 138, 91, 138, 91, 138, 91, 138, 91, 138, 91, 138, 91, 138, 91, 138, 91, 138, 91, 138, 91, 138, 91, 138, 91, 138] k_z51 k_z52 = true := by decide +kernel
set_option maxRecDepth 100000 in
theorem k_u52 : k_dck k_mcB k_Ef ev_nL ev_cm ev_sm k_sites [91, 138, 91, 138, 91, 138, 91, 138, 91, 138, 91, 138, 91, 138, 91, 138, 91, 138, 91, 138, 91, 138, 91, 138, 91, 138, 91] k_z52 k_z53 = true := by decide +kernel
end KV722_runs
