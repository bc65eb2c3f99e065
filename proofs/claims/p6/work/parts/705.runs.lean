noncomputable section KV705_runs
/-! RUNS (printed by wip/ev2/fin2.py). -/
set_option maxRecDepth 100000 in
theorem k_tP33 : k_ck (ev_mc 47 k_E11) 2288 k_xP33 k_xP34 = true := by decide +kernel
set_option maxRecDepth 100000 in
theorem k_tP34 : k_ck (ev_mc 47 k_E11) 2288 k_xP34 k_xP35 = true := by decide +kernel
set_option maxRecDepth 100000 in
theorem k_tP35 : k_ck (ev_mc 47 k_E11) 2288 k_xP35 k_xP36 = true := by decide +kernel
set_option maxRecDepth 100000 in
theorem k_tP36 : k_ck (ev_mc 47 k_E11) 2288 k_xP36 k_xP37 = true := by decide +kernel
set_option maxRecDepth 100000 in
theorem k_tP37 : k_ck (ev_mc 47 k_E11) 2288 k_xP37 k_xP38 = true := by decide +kernel
set_option maxRecDepth 100000 in
theorem k_tP38 : k_ck (ev_mc 47 k_E11) 2288 k_xP38 k_xP39 = true := by decide +kernel
set_option maxRecDepth 100000 in
theorem k_tP39 : k_ck (ev_mc 47 k_E11) 2288 k_xP39 k_xP40 = true := by decide +kernel
end KV705_runs
