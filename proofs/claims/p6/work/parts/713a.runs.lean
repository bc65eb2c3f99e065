noncomputable section KV713a_runs
/-! RUNS (printed by wip/ev2/fin2.py). -/
set_option maxRecDepth 100000 in
theorem k_tL7 : k_ck (ev_mL k_E1 636 k_bx) 1235 k_xL7 k_xL8 = true := by decide +kernel
end KV713a_runs
