noncomputable section KV710a_runs
/-! RUNS (printed by wip/ev2/fin2.py). -/
set_option maxRecDepth 100000 in
theorem k_tR1 : k_ck (ev_mc 13 k_E3) 6 k_xR1 k_xR2 = true := by decide +kernel
end KV710a_runs
