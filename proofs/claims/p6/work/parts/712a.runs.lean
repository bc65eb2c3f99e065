noncomputable section KV712a_runs
/-! RUNS (printed by wip/ev2/fin2.py). -/
set_option maxRecDepth 100000 in
theorem k_tL0 : k_ck (ev_mL k_E1 636 k_bx) 4 k_xL0 k_xL1 = true := by decide +kernel
end KV712a_runs
