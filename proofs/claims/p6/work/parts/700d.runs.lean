noncomputable section KV700d_runs
/-! RUNS (printed by wip/ev2/fin2.py). -/
set_option maxRecDepth 100000 in
theorem k_tP3 : k_ck (ev_mc 47 k_E11) 2288 k_xP3 k_xP4 = true := by decide +kernel
end KV700d_runs
