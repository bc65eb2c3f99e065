/-! FROM WHAT IS SAID OF EACH INSTRUCTION TO WHAT IS SAID OF A METHOD. -/
def ev_okR (P : Nat → ev_I → Prop) (K : Nat → Nat → Prop) : Nat → List (Option (ev_I ⊕ Nat)) → Prop
  | _, [] => True
  | pc, none :: l => ev_okR P K (pc + 1) l
  | pc, some (.inl f) :: l => P pc f ∧ ev_okR P K (pc + 1) l
  | pc, some (.inr k) :: l => K pc k ∧ ev_okR P K (pc + 1) l
def ev_okL (P : Nat → ev_I → Prop) (K : Nat → Nat → Prop) : Nat → List (List (Option (ev_I ⊕ Nat))) → Prop
  | _, [] => True
  | pc, r :: l => ev_okR P K pc r ∧ ev_okL P K (pc + 16) l
def ev_okX (P : Nat → ev_I → Prop) (K : Nat → Nat → Prop) (pc : Nat) : ev_I ⊕ Nat → Prop
  | .inl f => P pc f
  | .inr k => K pc k
theorem ev_okR_at {P : Nat → ev_I → Prop} {K : Nat → Nat → Prop} : ∀ (l : List (Option (ev_I ⊕ Nat))) (pc : Nat), ev_okR P K pc l → ∀ (i : Nat) (x : ev_I ⊕ Nat), l[i]? = some (some x) → ev_okX P K (pc + i) x
  | [], pc, h, i, x, hi => by simp at hi
  | none :: l, pc, h, i, x, hi => by
    match i, hi with
    | 0, hi => simp at hi
    | i + 1, hi =>
      rw [show pc + (i + 1) = pc + 1 + i by omega]
      exact ev_okR_at l (pc + 1) h i x (by simpa using hi)
  | some (.inl f) :: l, pc, h, i, x, hi => by
    match i, hi with
    | 0, hi =>
      cases hi
      exact h.1
    | i + 1, hi =>
      rw [show pc + (i + 1) = pc + 1 + i by omega]
      exact ev_okR_at l (pc + 1) h.2 i x (by simpa using hi)
  | some (.inr k) :: l, pc, h, i, x, hi => by
    match i, hi with
    | 0, hi =>
      cases hi
      exact h.1
    | i + 1, hi =>
      rw [show pc + (i + 1) = pc + 1 + i by omega]
      exact ev_okR_at l (pc + 1) h.2 i x (by simpa using hi)
theorem ev_okL_at {P : Nat → ev_I → Prop} {K : Nat → Nat → Prop} : ∀ (t : List (List (Option (ev_I ⊕ Nat)))) (pc : Nat), ev_okL P K pc t → ∀ (a : Nat) (r : List (Option (ev_I ⊕ Nat))), t[a]? = some r → ev_okR P K (pc + 16 * a) r
  | [], pc, h, a, r, ha => by simp at ha
  | q :: t, pc, h, a, r, ha => by
    match a, ha with
    | 0, ha =>
      cases ha
      exact h.1
    | a + 1, ha =>
      rw [show pc + 16 * (a + 1) = pc + 16 + 16 * a by omega]
      exact ev_okL_at t (pc + 16) h.2 a r (by simpa using ha)
theorem ev_code_at {P : Nat → ev_I → Prop} {K : Nat → Nat → Prop} {t : List (List (Option (ev_I ⊕ Nat)))} (h : ev_okL P K 0 t) {pc : Nat} {x : ev_I ⊕ Nat} (hx : ev_code t pc = some x) : ev_okX P K pc x := by
  unfold ev_code at hx
  rw [ev_lg_eq] at hx
  split at hx
  · next r hr =>
    rw [ev_lg_eq] at hx
    split at hx
    · next y hy =>
      subst hx
      have h1 := ev_okR_at r _ (ev_okL_at t 0 h (pc / 16) r hr) (pc % 16) x hy
      rw [show 0 + 16 * (pc / 16) + pc % 16 = pc by omega] at h1
      exact h1
    · cases hx
  · cases hx
theorem ev_mem {α : Type} {l : List α} {w : α} (i : Nat) (h : l[i]? = some w) : w ∈ l := List.mem_of_getElem? h
theorem ev_pz {P : Nat → ev_I → Prop} {K : Nat → Nat → Prop} {pc : Nat} : ev_okR P K pc [] := trivial
theorem ev_pn {P : Nat → ev_I → Prop} {K : Nat → Nat → Prop} {pc : Nat} {l : List (Option (ev_I ⊕ Nat))} (h : ev_okR P K (pc + 1) l) : ev_okR P K pc (ev_no :: l) := h
theorem ev_pc {P : Nat → ev_I → Prop} {K : Nat → Nat → Prop} {pc : Nat} {f : ev_I} {l : List (Option (ev_I ⊕ Nat))} (h1 : P pc f) (h : ev_okR P K (pc + 1) l) : ev_okR P K pc (ev_oi f :: l) := ⟨h1, h⟩
theorem ev_ps {P : Nat → ev_I → Prop} {K : Nat → Nat → Prop} {pc k : Nat} {l : List (Option (ev_I ⊕ Nat))} (h1 : K pc k) (h : ev_okR P K (pc + 1) l) : ev_okR P K pc (ev_os k :: l) := ⟨h1, h⟩
