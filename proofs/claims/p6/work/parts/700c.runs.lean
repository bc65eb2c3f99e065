noncomputable section KV700c_runs
/-! RUNS (printed by wip/ev2/fin2.py). -/
set_option maxRecDepth 100000 in
theorem k_tP2 : k_ck (ev_mc 47 k_E11) 2288 k_xP2 k_xP3 = true := by decide +kernel
end KV700c_runs
