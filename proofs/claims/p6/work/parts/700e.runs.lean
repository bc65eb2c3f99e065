noncomputable section KV700e_runs
/-! RUNS (printed by wip/ev2/fin2.py). -/
set_option maxRecDepth 100000 in
theorem k_tP4 : k_ck (ev_mc 47 k_E11) 2288 k_xP4 k_xP5 = true := by decide +kernel
end KV700e_runs
