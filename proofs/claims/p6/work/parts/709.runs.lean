noncomputable section KV709_runs
/-! RUNS (printed by wip/ev2/fin2.py). -/
set_option maxRecDepth 100000 in
theorem k_tP61 : k_ck (ev_mc 47 k_E11) 2288 k_xP61 k_xP62 = true := by decide +kernel
set_option maxRecDepth 100000 in
theorem k_tP62 : k_ck (ev_mc 47 k_E11) 2288 k_xP62 k_xP63 = true := by decide +kernel
set_option maxRecDepth 100000 in
theorem k_tP63 : k_ck (ev_mc 47 k_E11) 2288 k_xP63 k_xP64 = true := by decide +kernel
set_option maxRecDepth 100000 in
theorem k_tP64 : k_ck (ev_mc 47 k_E11) 2288 k_xP64 k_xP65 = true := by decide +kernel
set_option maxRecDepth 100000 in
theorem k_tP65 : k_ck (ev_mc 47 k_E11) 108 k_xP65 k_xP66 = true := by decide +kernel
set_option maxRecDepth 100000 in
theorem k_tR0 : k_ck (ev_mc 13 k_E3) 5 k_xR0 k_xR1 = true := by decide +kernel
end KV709_runs
