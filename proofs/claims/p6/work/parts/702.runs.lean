noncomputable section KV702_runs
/-! RUNS (printed by wip/ev2/fin2.py). -/
set_option maxRecDepth 100000 in
theorem k_tP12 : k_ck (ev_mc 47 k_E11) 2288 k_xP12 k_xP13 = true := by decide +kernel
set_option maxRecDepth 100000 in
theorem k_tP13 : k_ck (ev_mc 47 k_E11) 2288 k_xP13 k_xP14 = true := by decide +kernel
set_option maxRecDepth 100000 in
theorem k_tP14 : k_ck (ev_mc 47 k_E11) 2288 k_xP14 k_xP15 = true := by decide +kernel
set_option maxRecDepth 100000 in
theorem k_tP15 : k_ck (ev_mc 47 k_E11) 2288 k_xP15 k_xP16 = true := by decide +kernel
set_option maxRecDepth 100000 in
theorem k_tP16 : k_ck (ev_mc 47 k_E11) 2288 k_xP16 k_xP17 = true := by decide +kernel
set_option maxRecDepth 100000 in
theorem k_tP17 : k_ck (ev_mc 47 k_E11) 2288 k_xP17 k_xP18 = true := by decide +kernel
set_option maxRecDepth 100000 in
theorem k_tP18 : k_ck (ev_mc 47 k_E11) 2288 k_xP18 k_xP19 = true := by decide +kernel
end KV702_runs
