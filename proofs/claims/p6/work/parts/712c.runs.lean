noncomputable section KV712c_runs
/-! RUNS (printed by wip/ev2/fin2.py). -/
set_option maxRecDepth 100000 in
theorem k_tL2 : k_ck (ev_mL k_E1 636 k_bx) 994 k_xL2 k_xL3 = true := by decide +kernel
end KV712c_runs
