/-! THE RUNS: short scripts, and a call in each box of its arguments (printed by wip/ev/fin.py). -/
theorem ev_B6 : ev_chk 33 (ev_stp (ev_mL ev_E2 6 []) 6 23 ev_st1) = true := by decide +kernel
set_option maxRecDepth 100000 in
theorem ev_B0 : ev_fin (ev_run (ev_mL ev_E2 0 []) 100 23 ev_st1) = true := by decide +kernel
set_option maxRecDepth 100000 in
theorem ev_B1 : ev_fin (ev_run (ev_mL ev_E2 1 []) 100 23 ev_st1) = true := by decide +kernel
set_option maxRecDepth 100000 in
theorem ev_B2 : ev_fin (ev_run (ev_mL ev_E2 2 []) 100 23 ev_st1) = true := by decide +kernel
set_option maxRecDepth 100000 in
theorem ev_B3 : ev_fin (ev_run (ev_mL ev_E2 3 []) 100 23 ev_st1) = true := by decide +kernel
set_option maxRecDepth 100000 in
theorem ev_B4 : ev_fin (ev_run (ev_mL ev_E2 4 []) 100 23 ev_st1) = true := by decide +kernel
set_option maxRecDepth 100000 in
theorem ev_B5 : ev_fin (ev_run (ev_mL ev_E2 5 []) 100 23 ev_st1) = true := by decide +kernel
def ev_tgt (z : Nat) : Nat := match ev_lg [100, 173, 229, 273, 329, 365, 452, 520, 557, 570, 581] z with
  | some t => t
  | none => 606
def ev_wAny : List (Int × Int) := [(-2147483648, 2147483647)]
def ev_wSg : List (Int × Int) := [(-2147483648, -1), (0, 0), (1, 2147483647)]
def ev_wU3 : List (Int × Int) := [(-2147483648, -1), (0, 0), (1, 1), (2, 2), (3, 3), (4, 2147483647)]
def ev_wU4 : List (Int × Int) := [(-2147483648, -1), (0, 0), (1, 1), (2, 2), (3, 3), (4, 4), (5, 2147483647)]
def ev_wU18 : List (Int × Int) := [(-2147483648, -1), (0, 0), (1, 1), (2, 2), (3, 3), (4, 4), (5, 5), (6, 6), (7, 7), (8, 8), (9, 9), (10, 10), (11, 11), (12, 12), (13, 13), (14, 14), (15, 15), (16, 16), (17, 17), (18, 18), (19, 2147483647)]
def ev_box (C1 C2 C3 C4 C5 : List (Int × Int)) (f : List (Int × Int) → Bool) : Bool := C1.all fun c1 => C2.all fun c2 => C3.all fun c3 => C4.all fun c4 => C5.all fun c5 => f [(-2147483648, 2147483647), c1, c2, c3, c4, c5]
noncomputable def ev_go (z : Nat) (bx : List (Int × Int)) : Bool := ev_fin (ev_run (ev_mL ev_E2 6 bx) 1000 (ev_tgt z) ev_st1)
set_option maxRecDepth 100000 in
theorem ev_R0 : ev_box ev_wAny ev_wAny ev_wAny ev_wAny ev_wAny (ev_go 0) = true := by decide +kernel
set_option maxRecDepth 100000 in
theorem ev_R1 : ev_box ev_wSg ev_wAny ev_wAny ev_wAny ev_wAny (ev_go 1) = true := by decide +kernel
set_option maxRecDepth 100000 in
theorem ev_R2 : ev_box ev_wAny ev_wAny ev_wAny ev_wAny ev_wAny (ev_go 2) = true := by decide +kernel
set_option maxRecDepth 100000 in
theorem ev_R3 : ev_box ev_wAny ev_wAny ev_wAny ev_wAny ev_wAny (ev_go 3) = true := by decide +kernel
set_option maxRecDepth 100000 in
theorem ev_R4 : ev_box ev_wSg ev_wAny ev_wAny ev_wAny ev_wAny (ev_go 4) = true := by decide +kernel
set_option maxRecDepth 100000 in
theorem ev_R5 : ev_box ev_wU3 ev_wSg ev_wSg ev_wAny ev_wAny (ev_go 5) = true := by decide +kernel
set_option maxRecDepth 100000 in
theorem ev_R6 : ev_box ev_wU4 ev_wSg ev_wAny ev_wAny ev_wAny (ev_go 6) = true := by decide +kernel
set_option maxRecDepth 100000 in
theorem ev_R7 : ev_box ev_wU3 ev_wSg ev_wAny ev_wAny ev_wAny (ev_go 7) = true := by decide +kernel
set_option maxRecDepth 100000 in
theorem ev_R8 : ev_box ev_wAny ev_wAny ev_wAny ev_wAny ev_wAny (ev_go 8) = true := by decide +kernel
set_option maxRecDepth 100000 in
theorem ev_R9 : ev_box ev_wAny ev_wAny ev_wAny ev_wAny ev_wAny (ev_go 9) = true := by decide +kernel
set_option maxRecDepth 100000 in
theorem ev_R10 : ev_box ev_wU18 ev_wAny ev_wAny ev_wAny ev_wAny (ev_go 10) = true := by decide +kernel
set_option maxRecDepth 100000 in
theorem ev_R11 : ev_box ev_wAny ev_wAny ev_wAny ev_wAny ev_wAny (ev_go 11) = true := by decide +kernel
