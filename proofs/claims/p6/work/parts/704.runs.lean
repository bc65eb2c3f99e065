noncomputable section KV704_runs
/-! RUNS (printed by wip/ev2/fin2.py). -/
set_option maxRecDepth 100000 in
theorem k_tP26 : k_ck (ev_mc 47 k_E11) 2288 k_xP26 k_xP27 = true := by decide +kernel
set_option maxRecDepth 100000 in
theorem k_tP27 : k_ck (ev_mc 47 k_E11) 2288 k_xP27 k_xP28 = true := by decide +kernel
set_option maxRecDepth 100000 in
theorem k_tP28 : k_ck (ev_mc 47 k_E11) 2288 k_xP28 k_xP29 = true := by decide +kernel
set_option maxRecDepth 100000 in
theorem k_tP29 : k_ck (ev_mc 47 k_E11) 2288 k_xP29 k_xP30 = true := by decide +kernel
set_option maxRecDepth 100000 in
theorem k_tP30 : k_ck (ev_mc 47 k_E11) 2288 k_xP30 k_xP31 = true := by decide +kernel
set_option maxRecDepth 100000 in
theorem k_tP31 : k_ck (ev_mc 47 k_E11) 2288 k_xP31 k_xP32 = true := by decide +kernel
set_option maxRecDepth 100000 in
theorem k_tP32 : k_ck (ev_mc 47 k_E11) 2288 k_xP32 k_xP33 = true := by decide +kernel
end KV704_runs
