noncomputable section KV726_runs
/-! RUNS (printed by wip/ev2/fin2.py). -/
set_option maxRecDepth 100000 in
theorem k_u74 : k_dck k_mcB k_Ef ev_nL ev_cm ev_sm k_sites [91, 138, 91, 138, 91, 138, 91, 138, 91, 138, 91, 138, 91, 138, 91, 138, 91, 138, 91, 138, 91, 138, 91, 138, 91, 138, 91] k_z74 k_z75 = true := by decide +kernel
set_option maxRecDepth 100000 in
theorem k_u75 : k_dck k_mcB k_Ef ev_nL ev_cm ev_sm k_sites [138, 91, 138, 91, 138, 91, 138, 91, 138, 91, 138, 91, 138, 91, 138, 91, 138, 91, 138, 91, 138, 91, 138, 91, 138, 91, 138] k_z75 k_z76 = true := by decide +kernel
set_option maxRecDepth 100000 in
theorem k_u76 : k_dck k_mcB k_Ef ev_nL ev_cm ev_sm k_sites [91, 138, 91, 138, 91, 138, 91, 138, 91, 138, 91, 138, 91, 138, 91, 138, 91, 138, 91, 138, 91, 138, 91, 138, 91, 138, 91] k_z76 k_z77 = true := by decide +kernel
set_option maxRecDepth 100000 in
theorem k_u77 : k_dck k_mcB k_Ef ev_nL ev_cm ev_sm k_sites [138, 91, 138, 91, 138, 91, 138, 91, 138, 91, 138, 91, 138, 91, 138, 91, 138, 91, 138, 91, 138, 91, 138, 91, 138, 91, 138] k_z77 k_z78 = true := by decide +kernel
set_option maxRecDepth 100000 in
theorem k_u78 : k_dck k_mcB k_Ef ev_nL ev_cm ev_sm k_sites [91, 138, 91, 138, 91, 138, 91, 138, 91, 138, 91, 138, 21, 16, 2, 18, 6, 3] k_z78 k_z79 = true := by decide +kernel
end KV726_runs
