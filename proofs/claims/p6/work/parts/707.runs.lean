noncomputable section KV707_runs
/-! RUNS (printed by wip/ev2/fin2.py). -/
set_option maxRecDepth 100000 in
theorem k_tP47 : k_ck (ev_mc 47 k_E11) 2288 k_xP47 k_xP48 = true := by decide +kernel
set_option maxRecDepth 100000 in
theorem k_tP48 : k_ck (ev_mc 47 k_E11) 2288 k_xP48 k_xP49 = true := by decide +kernel
set_option maxRecDepth 100000 in
theorem k_tP49 : k_ck (ev_mc 47 k_E11) 2288 k_xP49 k_xP50 = true := by decide +kernel
set_option maxRecDepth 100000 in
theorem k_tP50 : k_ck (ev_mc 47 k_E11) 2288 k_xP50 k_xP51 = true := by decide +kernel
set_option maxRecDepth 100000 in
theorem k_tP51 : k_ck (ev_mc 47 k_E11) 2288 k_xP51 k_xP52 = true := by decide +kernel
set_option maxRecDepth 100000 in
theorem k_tP52 : k_ck (ev_mc 47 k_E11) 2288 k_xP52 k_xP53 = true := by decide +kernel
set_option maxRecDepth 100000 in
theorem k_tP53 : k_ck (ev_mc 47 k_E11) 2288 k_xP53 k_xP54 = true := by decide +kernel
end KV707_runs
