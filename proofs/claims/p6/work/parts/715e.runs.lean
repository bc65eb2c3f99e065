noncomputable section KV715e_runs
/-! RUNS (printed by wip/ev2/fin2.py). -/
set_option maxRecDepth 100000 in
theorem k_u3 : k_dck k_mcB k_Ef ev_nL ev_cm ev_sm k_sites [10, 37, 1, 3, 88, 138, 91, 138, 91, 138, 91, 138, 91, 138, 91, 138, 91, 138, 91, 138, 91, 138, 91, 138, 91, 138, 91, 138, 91, 138] k_z3 k_z4 = true := by decide +kernel
end KV715e_runs
