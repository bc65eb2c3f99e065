noncomputable section KV712d_runs
/-! RUNS (printed by wip/ev2/fin2.py). -/
set_option maxRecDepth 100000 in
theorem k_tL3 : k_ck (ev_mL k_E1 636 k_bx) 923 k_xL3 k_xL4 = true := by decide +kernel
end KV712d_runs
