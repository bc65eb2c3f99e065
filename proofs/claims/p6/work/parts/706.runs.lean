noncomputable section KV706_runs
/-! RUNS (printed by wip/ev2/fin2.py). -/
set_option maxRecDepth 100000 in
theorem k_tP40 : k_ck (ev_mc 47 k_E11) 2288 k_xP40 k_xP41 = true := by decide +kernel
set_option maxRecDepth 100000 in
theorem k_tP41 : k_ck (ev_mc 47 k_E11) 2288 k_xP41 k_xP42 = true := by decide +kernel
set_option maxRecDepth 100000 in
theorem k_tP42 : k_ck (ev_mc 47 k_E11) 2288 k_xP42 k_xP43 = true := by decide +kernel
set_option maxRecDepth 100000 in
theorem k_tP43 : k_ck (ev_mc 47 k_E11) 2288 k_xP43 k_xP44 = true := by decide +kernel
set_option maxRecDepth 100000 in
theorem k_tP44 : k_ck (ev_mc 47 k_E11) 2288 k_xP44 k_xP45 = true := by decide +kernel
set_option maxRecDepth 100000 in
theorem k_tP45 : k_ck (ev_mc 47 k_E11) 2288 k_xP45 k_xP46 = true := by decide +kernel
set_option maxRecDepth 100000 in
theorem k_tP46 : k_ck (ev_mc 47 k_E11) 2288 k_xP46 k_xP47 = true := by decide +kernel
end KV706_runs
