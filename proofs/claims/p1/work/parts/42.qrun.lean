/-! THE CONSTRUCTORS ARE RUN (printed by wip/ev/fin.py). -/
noncomputable def ev_E2 : ev_E := ev_alt (ev_H ev_mh ev_nL ev_cm ev_sm 1000 (ev_M ev_mc2 ev_nL ev_cm ev_sm 100000 13) (ev_MX ev_mc2 ev_nL ev_cm ev_sm 100000 (ev_M ev_mc2 ev_nL ev_cm ev_sm 100000 12))) (ev_M ev_mc2 ev_nL ev_cm ev_sm 100000 14)
noncomputable def ev_c23 (pc : Nat) : Option (ev_I ⊕ Nat) := cond (Nat.blt pc 23) (ev_mL ev_E2 0 [] pc) none
set_option maxRecDepth 100000 in
theorem ev_A : ev_chk 23 (ev_stp ev_c23 13 0 ([], ev_ent 7 [ev_ext 3000], (0, ev_e0 10), (0, 0))) = true := by decide +kernel
