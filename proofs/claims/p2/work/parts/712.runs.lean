noncomputable section KV712_runs
/-! RUNS (printed by wip/ev2/fin2.py). -/
set_option maxRecDepth 100000 in
theorem k_tL0 : k_ck (ev_mL k_E1 636 k_bx) 4 k_xL0 k_xL1 = true := by decide +kernel
set_option maxRecDepth 100000 in
theorem k_tL1 : k_ck (ev_mL k_E1 636 k_bx) 404 k_xL1 k_xL2 = true := by decide +kernel
set_option maxRecDepth 100000 in
theorem k_tL2 : k_ck (ev_mL k_E1 636 k_bx) 966 k_xL2 k_xL3 = true := by decide +kernel
set_option maxRecDepth 100000 in
theorem k_tL3 : k_ck (ev_mL k_E1 636 k_bx) 897 k_xL3 k_xL4 = true := by decide +kernel
set_option maxRecDepth 100000 in
theorem k_tL4 : k_ck (ev_mL k_E1 636 k_bx) 1242 k_xL4 k_xL5 = true := by decide +kernel
set_option maxRecDepth 100000 in
theorem k_tL5 : k_ck (ev_mL k_E1 636 k_bx) 621 k_xL5 k_xL6 = true := by decide +kernel
end KV712_runs
