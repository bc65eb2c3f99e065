noncomputable section KV713b_runs
/-! RUNS (printed by wip/ev2/fin2.py). -/
set_option maxRecDepth 100000 in
theorem k_tL8 : k_ck (ev_mL k_E1 636 k_bx) 781 k_xL8 k_xL9 = true := by decide +kernel
end KV713b_runs
