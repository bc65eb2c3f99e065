noncomputable section KV700b_runs
/-! RUNS (printed by wip/ev2/fin2.py). -/
set_option maxRecDepth 100000 in
theorem k_tP1 : k_ck (ev_mc 47 k_E11) 2324 k_xP1 k_xP2 = true := by decide +kernel
end KV700b_runs
