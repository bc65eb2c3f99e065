noncomputable section KV708_runs
/-! RUNS (printed by wip/ev2/fin2.py). -/
set_option maxRecDepth 100000 in
theorem k_tP54 : k_ck (ev_mc 47 k_E11) 2288 k_xP54 k_xP55 = true := by decide +kernel
set_option maxRecDepth 100000 in
theorem k_tP55 : k_ck (ev_mc 47 k_E11) 2288 k_xP55 k_xP56 = true := by decide +kernel
set_option maxRecDepth 100000 in
theorem k_tP56 : k_ck (ev_mc 47 k_E11) 2288 k_xP56 k_xP57 = true := by decide +kernel
set_option maxRecDepth 100000 in
theorem k_tP57 : k_ck (ev_mc 47 k_E11) 2288 k_xP57 k_xP58 = true := by decide +kernel
set_option maxRecDepth 100000 in
theorem k_tP58 : k_ck (ev_mc 47 k_E11) 2288 k_xP58 k_xP59 = true := by decide +kernel
set_option maxRecDepth 100000 in
theorem k_tP59 : k_ck (ev_mc 47 k_E11) 2288 k_xP59 k_xP60 = true := by decide +kernel
set_option maxRecDepth 100000 in
theorem k_tP60 : k_ck (ev_mc 47 k_E11) 2288 k_xP60 k_xP61 = true := by decide +kernel
end KV708_runs
