noncomputable section KV701_runs
/-! RUNS (printed by wip/ev2/fin2.py). -/
set_option maxRecDepth 100000 in
theorem k_tP5 : k_ck (ev_mc 47 k_E11) 2288 k_xP5 k_xP6 = true := by decide +kernel
set_option maxRecDepth 100000 in
theorem k_tP6 : k_ck (ev_mc 47 k_E11) 2288 k_xP6 k_xP7 = true := by decide +kernel
set_option maxRecDepth 100000 in
theorem k_tP7 : k_ck (ev_mc 47 k_E11) 2288 k_xP7 k_xP8 = true := by decide +kernel
set_option maxRecDepth 100000 in
theorem k_tP8 : k_ck (ev_mc 47 k_E11) 2288 k_xP8 k_xP9 = true := by decide +kernel
set_option maxRecDepth 100000 in
theorem k_tP9 : k_ck (ev_mc 47 k_E11) 2288 k_xP9 k_xP10 = true := by decide +kernel
set_option maxRecDepth 100000 in
theorem k_tP10 : k_ck (ev_mc 47 k_E11) 2288 k_xP10 k_xP11 = true := by decide +kernel
set_option maxRecDepth 100000 in
theorem k_tP11 : k_ck (ev_mc 47 k_E11) 2288 k_xP11 k_xP12 = true := by decide +kernel
end KV701_runs
