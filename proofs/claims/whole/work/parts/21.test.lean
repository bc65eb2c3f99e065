set_option maxRecDepth 100000 in
theorem ev_test0 : (match ev_M ev_mc ev_nL ev_cm ev_sm 100000 12 52 [ev_ref 0, ev_int 64] (1, ev_tS 10 (ev_e0 10) 0 (some (.inl (0, ev_f0)))) with
  | some _ => true
  | none => false) = true := by decide +kernel
