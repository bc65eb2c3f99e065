noncomputable section KV711_runs
/-! RUNS (printed by wip/ev2/fin2.py). -/
set_option maxRecDepth 100000 in
theorem k_tR2 : k_ck (ev_mc 13 k_E3) 26 k_xR2 k_xR3 = true := by decide +kernel
end KV711_runs
