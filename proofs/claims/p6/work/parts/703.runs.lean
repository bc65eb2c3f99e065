noncomputable section KV703_runs
/-! RUNS (printed by wip/ev2/fin2.py). -/
set_option maxRecDepth 100000 in
theorem k_tP19 : k_ck (ev_mc 47 k_E11) 2288 k_xP19 k_xP20 = true := by decide +kernel
set_option maxRecDepth 100000 in
theorem k_tP20 : k_ck (ev_mc 47 k_E11) 2288 k_xP20 k_xP21 = true := by decide +kernel
set_option maxRecDepth 100000 in
theorem k_tP21 : k_ck (ev_mc 47 k_E11) 2288 k_xP21 k_xP22 = true := by decide +kernel
set_option maxRecDepth 100000 in
theorem k_tP22 : k_ck (ev_mc 47 k_E11) 2288 k_xP22 k_xP23 = true := by decide +kernel
set_option maxRecDepth 100000 in
theorem k_tP23 : k_ck (ev_mc 47 k_E11) 2288 k_xP23 k_xP24 = true := by decide +kernel
set_option maxRecDepth 100000 in
theorem k_tP24 : k_ck (ev_mc 47 k_E11) 2288 k_xP24 k_xP25 = true := by decide +kernel
set_option maxRecDepth 100000 in
theorem k_tP25 : k_ck (ev_mc 47 k_E11) 2288 k_xP25 k_xP26 = true := by decide +kernel
end KV703_runs
