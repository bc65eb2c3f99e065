noncomputable section KV712e_runs
/-! RUNS (printed by wip/ev2/fin2.py). -/
set_option maxRecDepth 100000 in
theorem k_tL4 : k_ck (ev_mL k_E1 636 k_bx) 1250 k_xL4 k_xL5 = true := by decide +kernel
end KV712e_runs
