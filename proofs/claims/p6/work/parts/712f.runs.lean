noncomputable section KV712f_runs
/-! RUNS (printed by wip/ev2/fin2.py). -/
set_option maxRecDepth 100000 in
theorem k_tL5 : k_ck (ev_mL k_E1 636 k_bx) 596 k_xL5 k_xL6 = true := by decide +kernel
end KV712f_runs
