noncomputable section KV54_sites
/-! THE PLACES WHERE THE RUN GOES DOWN, in a list (printed by wip/ev2/pf3.py). -/
abbrev k_St : Type := Nat × (Nat × (ev_Hp → List ev_V → Bool))
def k_fs : List ((Nat × Nat) × k_St) → Nat → Nat → Option k_St
  | [], _, _ => none
  | (q, v) :: l, mid, pc => cond (Nat.beq q.1 mid && Nat.beq q.2 pc) (some v) (k_fs l mid pc)
theorem k_fs_ok {P : (Nat × Nat) × k_St → Prop} : ∀ {l : List ((Nat × Nat) × k_St)} {mid pc : Nat} {v : k_St}, (∀ q ∈ l, P q) → k_fs l mid pc = some v → P ((mid, pc), v)
  | [], _, _, _, _, h => by cases h
  | ((q1, q2), v0) :: l, mid, pc, v, hP, h => by
    have h : cond (Nat.beq q1 mid && Nat.beq q2 pc) (some v0) (k_fs l mid pc) = some v := h
    cases hb : (Nat.beq q1 mid && Nat.beq q2 pc) with
    | true =>
      rw [hb] at h
      cases h
      rw [Bool.and_eq_true] at hb
      have e1 := Nat.eq_of_beq_eq_true hb.1
      have e2 := Nat.eq_of_beq_eq_true hb.2
      subst e1 e2
      exact hP _ List.mem_cons_self
    | false =>
      rw [hb] at h
      exact k_fs_ok (fun q hq => hP q (List.mem_cons_of_mem _ hq)) h
def k_sl : List ((Nat × Nat) × k_St) := [((105, 38), (106, (2, (ev_recv 13)))), ((106, 46), (110, (5, (ev_recv 13)))), ((110, 105), (141, (1, (ev_recv 21)))), ((141, 1), (142, (1, (ev_recv 21)))), ((142, 3), (126, (3, (ev_recv 21)))), ((126, 202), (138, (1, (ev_recv 21)))), ((138, 342), (126, (3, (ev_recv 21)))), ((126, 42), (133, (1, (ev_recv 21)))), ((133, 31), (127, (2, (ev_recv 21)))), ((127, 4), (92, (2, ev_rc1))), ((92, 28), (149, (2, ev_rclit))), ((149, 12), (154, (2, ev_rc1))), ((154, 3), (150, (2, ev_rc1)))]
def k_sites : Nat → Nat → Option k_St := k_fs k_sl
set_option maxRecDepth 20000 in
theorem k_ex92 : ∃ E pc x, k_mcB 92 E pc = some x := ⟨fun _ _ _ => none, 0, _, rfl⟩
set_option maxRecDepth 20000 in
theorem k_ex105 : ∃ E pc x, k_mcB 105 E pc = some x := ⟨fun _ _ _ => none, 0, _, rfl⟩
set_option maxRecDepth 20000 in
theorem k_ex106 : ∃ E pc x, k_mcB 106 E pc = some x := ⟨fun _ _ _ => none, 0, _, rfl⟩
set_option maxRecDepth 20000 in
theorem k_ex110 : ∃ E pc x, k_mcB 110 E pc = some x := ⟨fun _ _ _ => none, 0, _, rfl⟩
set_option maxRecDepth 20000 in
theorem k_ex126 : ∃ E pc x, k_mcB 126 E pc = some x := ⟨fun _ _ _ => none, 0, _, rfl⟩
set_option maxRecDepth 20000 in
theorem k_ex127 : ∃ E pc x, k_mcB 127 E pc = some x := ⟨fun _ _ _ => none, 0, _, rfl⟩
set_option maxRecDepth 20000 in
theorem k_ex133 : ∃ E pc x, k_mcB 133 E pc = some x := ⟨fun _ _ _ => none, 0, _, rfl⟩
set_option maxRecDepth 20000 in
theorem k_ex138 : ∃ E pc x, k_mcB 138 E pc = some x := ⟨fun _ _ _ => none, 0, _, rfl⟩
set_option maxRecDepth 20000 in
theorem k_ex141 : ∃ E pc x, k_mcB 141 E pc = some x := ⟨fun _ _ _ => none, 0, _, rfl⟩
set_option maxRecDepth 20000 in
theorem k_ex142 : ∃ E pc x, k_mcB 142 E pc = some x := ⟨fun _ _ _ => none, 0, _, rfl⟩
set_option maxRecDepth 20000 in
theorem k_ex149 : ∃ E pc x, k_mcB 149 E pc = some x := ⟨fun _ _ _ => none, 0, _, rfl⟩
set_option maxRecDepth 20000 in
theorem k_ex150 : ∃ E pc x, k_mcB 150 E pc = some x := ⟨fun _ _ _ => none, 0, _, rfl⟩
set_option maxRecDepth 20000 in
theorem k_ex154 : ∃ E pc x, k_mcB 154 E pc = some x := ⟨fun _ _ _ => none, 0, _, rfl⟩
def k_sP (l : Launch) (D : va_G) (A : Nat → Prop) (ex : Nat → Value) (q : (Nat × Nat) × k_St) : Prop := (∃ E pc x, k_mcB q.1.1 E pc = some x) ∧ (∃ E pc x, k_mcB q.2.1 E pc = some x) ∧ k_Hop l D ev_cl A ex ev_ty (ev_XT A ex) ev_y ev_b ev_nL ev_ws q.1.1 q.1.2 q.2.1 q.2.2.1 q.2.2.2
theorem k_sl_ok {l : Launch} {D : va_G} {A : Nat → Prop} {ex : Nat → Value} : ∀ q ∈ k_sl, k_sP l D A ex q := List.forall_mem_cons.mpr ⟨⟨k_ex105, k_ex106, k_hop0⟩, List.forall_mem_cons.mpr ⟨⟨k_ex106, k_ex110, k_hop1⟩, List.forall_mem_cons.mpr ⟨⟨k_ex110, k_ex141, k_hop2⟩, List.forall_mem_cons.mpr ⟨⟨k_ex141, k_ex142, k_hop3⟩, List.forall_mem_cons.mpr ⟨⟨k_ex142, k_ex126, k_hop4⟩, List.forall_mem_cons.mpr ⟨⟨k_ex126, k_ex138, k_hop5⟩, List.forall_mem_cons.mpr ⟨⟨k_ex138, k_ex126, k_hop6⟩, List.forall_mem_cons.mpr ⟨⟨k_ex126, k_ex133, k_hop7⟩, List.forall_mem_cons.mpr ⟨⟨k_ex133, k_ex127, k_hop8⟩, List.forall_mem_cons.mpr ⟨⟨k_ex127, k_ex92, k_hop9⟩, List.forall_mem_cons.mpr ⟨⟨k_ex92, k_ex149, k_hop10⟩, List.forall_mem_cons.mpr ⟨⟨k_ex149, k_ex154, k_hop11⟩, List.forall_mem_cons.mpr ⟨⟨k_ex154, k_ex150, k_hop12⟩, fun _ h => absurd h List.not_mem_nil⟩⟩⟩⟩⟩⟩⟩⟩⟩⟩⟩⟩⟩
theorem k_sites_ok {l : Launch} {D : va_G} {A : Nat → Prop} {ex : Nat → Value} (mid pc mid2 na : Nat) (rc : ev_Hp → List ev_V → Bool) (h : k_sites mid pc = some (mid2, na, rc)) : (∃ E pc x, k_mcB mid E pc = some x) ∧ (∃ E pc x, k_mcB mid2 E pc = some x) ∧ k_Hop l D ev_cl A ex ev_ty (ev_XT A ex) ev_y ev_b ev_nL ev_ws mid pc mid2 na rc := k_fs_ok (P := k_sP l D A ex) k_sl_ok h
end KV54_sites
