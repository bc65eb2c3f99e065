/-! test -/
abbrev k_St : Type := Nat × (Nat × (ev_Hp → List ev_V → Bool))
def k_fs : List ((Nat × Nat) × k_St) → Nat → Nat → Option k_St
  | [], _, _ => none
  | (q, v) :: l, mid, pc => cond (Nat.beq q.1 mid && Nat.beq q.2 pc) (some v) (k_fs l mid pc)
def k_sl : List ((Nat × Nat) × k_St) := [((105, 38), (106, (2, (ev_recv 13)))), ((106, 46), (110, (5, (ev_recv 13)))), ((110, 105), (141, (1, (ev_recv 21)))), ((141, 1), (142, (1, (ev_recv 21)))), ((142, 3), (126, (3, (ev_recv 21)))), ((126, 202), (138, (1, (ev_recv 21)))), ((138, 342), (126, (3, (ev_recv 21)))), ((126, 42), (133, (1, (ev_recv 21)))), ((133, 31), (127, (2, (ev_recv 21)))), ((127, 4), (92, (2, ev_rc1))), ((92, 28), (149, (2, ev_rclit))), ((149, 12), (154, (2, ev_rc1))), ((154, 3), (150, (2, ev_rc1)))]
def k_sites : Nat → Nat → Option k_St := k_fs k_sl
