noncomputable section KV08_outs
/-! THINGS OUTSIDE OF THE WORLD; comparisons of references; switches. -/
def ev_getx (n : Nat) (tb : Nat → Option ev_V) : ev_I := fun st => match st with
  | (.inr (.inr (some (.inr j))) :: stk, r) => match tb j with
    | some v => some (n, (v :: stk, r))
    | none => none
  | _ => none
def ev_alenx (n : Nat) (tb : Nat → Option Nat) : ev_I := fun st => match st with
  | (.inr (.inr (some (.inr j))) :: stk, r) => match tb j with
    | some len => some (n, (.inl (.ofNat len, .ofNat len) :: stk, r))
    | none => none
  | _ => none
def ev_aldx (n : Nat) (tb : Nat → Nat → Option Int) : ev_I := fun st => match st with
  | (.inl (.ofNat i1, i2) :: .inr (.inr (some (.inr j))) :: stk, r) => match tb j i1 with
    | some z => cond (decide (Int.ofNat i1 = i2)) (some (n, (.inl (z, z) :: stk, r))) none
    | none => none
  | _ => none
def ev_acmp (b : Bool) (n t : Nat) : ev_I := fun st => match st with
  | (.inr (.inr none) :: .inr (.inr none) :: stk, r) => some (cond b t n, (stk, r))
  | (.inr (.inr (some (.inl _))) :: .inr (.inr none) :: stk, r) => some (cond b n t, (stk, r))
  | (.inr (.inr none) :: .inr (.inr (some (.inl _))) :: stk, r) => some (cond b n t, (stk, r))
  | (.inr (.inr (some (.inl j))) :: .inr (.inr (some (.inl k))) :: stk, r) => some (cond (Nat.beq j k) (cond b t n) (cond b n t), (stk, r))
  | _ => none
/-- a known int chooses -/
def ev_tsw (lo : Int) (ts : List Nat) (dflt : Nat) : ev_I := fun st => match st with
  | (.inl (a1, a2) :: stk, r) => cond (decide (a1 = a2)) (match a1 - lo with
    | .ofNat i => (match ev_lg ts i with
      | some t => some (t, (stk, r))
      | none => some (dflt, (stk, r)))
    | .negSucc _ => some (dflt, (stk, r))) (cond (decide (a2 < lo) || decide (lo + Int.ofNat ts.length ≤ a1)) (some (dflt, (stk, r))) none)
  | _ => none
def ev_lsf (z : Int) (dflt : Nat) : List (Int × Nat) → Nat
  | [] => dflt
  | (k, t) :: l => cond (decide (z = k)) t (ev_lsf z dflt l)
def ev_lsw (ps : List (Int × Nat)) (dflt : Nat) : ev_I := fun st => match st with
  | (.inl (a1, a2) :: stk, r) => cond (decide (a1 = a2)) (ev_fN (ev_lsf a1 dflt ps) (fun t => some (t, (stk, r)))) none
  | _ => none
/-- an array of arrays: an array of the kind ta, or null, to it -/
def ev_asta (n tc ta : Nat) : ev_I := fun st => match st with
  | (.inr (.inr v) :: .inl (.ofNat i1, i2) :: .inr (.inr (some (.inl k))) :: stk, L, h, r) => match ev_tg 5 h.2 k with
    | some (.inr (tc', len, els)) => cond (decide (Int.ofNat i1 = i2) && (Nat.beq tc' tc && (match v with
        | some (.inl j) => (match ev_tg 5 h.2 j with
          | some (.inr (ta', _, _)) => Nat.beq ta' ta
          | _ => false)
        | _ => false))) (ev_ls els i1 (.inr (.inr v)) (fun els' => ev_ts 5 h.2 k (some (.inr (tc', len, els'))) (fun t' => some (n, (stk, L, (h.1, t'), r)))) none) none
    | _ => none
  | _ => none
/-- a method's code in rows of sixteen -/
def ev_code (t : List (List (Option (ev_I ⊕ Nat)))) (pc : Nat) : Option (ev_I ⊕ Nat) := match ev_lg t (pc / 16) with
  | some r => (match ev_lg r (pc % 16) with
    | some x => x
    | none => none)
  | none => none
def ev_oi (f : ev_I) : Option (ev_I ⊕ Nat) := some (.inl f)
def ev_os (k : Nat) : Option (ev_I ⊕ Nat) := some (.inr k)
def ev_no : Option (ev_I ⊕ Nat) := none
def ev_shr0 (n : Nat) : ev_I := fun st => match st with
  | (.inl (b1, b2) :: .inl a :: stk, r) => cond (decide (b1 = 0) && decide (b2 = 0)) (some (n, (.inl a :: stk, r))) none
  | _ => none
end KV08_outs
