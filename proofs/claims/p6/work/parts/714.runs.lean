noncomputable section KV714_runs
/-! RUNS (printed by wip/ev2/fin2.py). -/
set_option maxRecDepth 100000 in
theorem k_tL9 : k_ck (ev_mL k_E1 636 k_bx) 30 k_xL9 k_xL10 = true := by decide +kernel
end KV714_runs
