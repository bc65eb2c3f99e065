set_option maxRecDepth 100000 in
theorem ev_test1 : (match ev_M ev_mc ev_nL ev_cm ev_sm 100000 12 0 [ev_ref 0] (1, ev_tS 10 (ev_e0 10) 0 (some (.inl (1, ev_f1)))) with
  | some _ => true
  | none => false) = true := by decide +kernel
