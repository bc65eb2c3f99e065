noncomputable section KV715b_runs
/-! RUNS (printed by wip/ev2/fin2.py). -/
set_option maxRecDepth 100000 in
theorem k_u0 : k_ck (k_mcB 105 (k_Ef (k_d 2047))) 10 (k_z0.2.1, k_z0.2.2.1) (k_z1.2.1, k_z1.2.2.1) = true := by decide +kernel
end KV715b_runs
