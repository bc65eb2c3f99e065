noncomputable section KV715d_runs
/-! RUNS (printed by wip/ev2/fin2.py). -/
set_option maxRecDepth 100000 in
theorem k_u2 : k_ck (k_mcB 106 (k_Ef (k_d 2046))) 13 (k_z2.2.1, k_z2.2.2.1) (k_z3.2.1, k_z3.2.2.1) = true := by decide +kernel
end KV715d_runs
