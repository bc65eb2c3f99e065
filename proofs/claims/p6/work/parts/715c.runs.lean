noncomputable section KV715c_runs
/-! RUNS (printed by wip/ev2/fin2.py). -/
set_option maxRecDepth 100000 in
theorem k_u1 : k_dck k_mcB k_Ef ev_nL ev_cm ev_sm k_sites [10] k_z1 k_z2 = true := by decide +kernel
end KV715c_runs
