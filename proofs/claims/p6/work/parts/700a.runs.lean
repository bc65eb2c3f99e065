noncomputable section KV700a_runs
/-! RUNS (printed by wip/ev2/fin2.py). -/
set_option maxRecDepth 100000 in
theorem k_tP0 : k_ck (ev_mc 47 k_E11) 35 k_xP0 k_xP1 = true := by decide +kernel
end KV700a_runs
