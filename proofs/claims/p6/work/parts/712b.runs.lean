noncomputable section KV712b_runs
/-! RUNS (printed by wip/ev2/fin2.py). -/
set_option maxRecDepth 100000 in
theorem k_tL1 : k_ck (ev_mL k_E1 636 k_bx) 413 k_xL1 k_xL2 = true := by decide +kernel
end KV712b_runs
