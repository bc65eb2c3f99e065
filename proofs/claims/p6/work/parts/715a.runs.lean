noncomputable section KV715a_runs
/-! RUNS (printed by wip/ev2/fin2.py). -/
theorem k_tZ : k_ck (k_mcB 150 (fun _ _ _ => none)) 3 (k_z79.2.1, k_z79.2.2.1) k_xZ = true := by decide +kernel
end KV715a_runs
