section
/-! A PROVED EVALUATOR. Pictures of values, cells and heaps; an instruction is a function on pictures; nothing here speaks of a class. -/
/-- int (from lo to hi), long (from lo to hi), null, the cell at a place of the world, a thing outside of it -/
abbrev ev_V : Type := (Int × Int) ⊕ ((Int × Int) ⊕ Option (Nat ⊕ Nat))
/-- an object: its class's number, its fields; an array: its kind, its length, its elements -/
abbrev ev_C : Type := (Nat × List ev_V) ⊕ (Nat × Nat × List ev_V)
def ev_T (α : Type) : Nat → Type
  | 0 => α
  | n + 1 => ev_T α n × ev_T α n
def ev_tg {α : Type} : (n : Nat) → ev_T α n → Nat → α
  | 0, t, _ => t
  | n + 1, t, k => match (t : ev_T α n × ev_T α n) with
    | (l, r) => cond (Nat.beq (k % 2) 0) (ev_tg n l (k / 2)) (ev_tg n r (k / 2))
def ev_tS {α : Type} : (n : Nat) → ev_T α n → Nat → α → ev_T α n
  | 0, _, _, v => v
  | n + 1, t, k, v => match (t : ev_T α n × ev_T α n) with
    | (l, r) => cond (Nat.beq (k % 2) 0) (ev_tS n l (k / 2) v, r) (l, ev_tS n r (k / 2) v)
/-- the same, the new one made whole before it goes on -/
def ev_ts {α β : Type} : (n : Nat) → ev_T α n → Nat → α → (ev_T α n → β) → β
  | 0, _, _, v, κ => κ v
  | n + 1, t, k, v, κ => match (t : ev_T α n × ev_T α n) with
    | (l, r) => cond (Nat.beq (k % 2) 0) (ev_ts n l (k / 2) v (fun l' => κ (l', r))) (ev_ts n r (k / 2) v (fun r' => κ (l, r')))
theorem ev_ts_eq {α β : Type} : ∀ (n : Nat) (t : ev_T α n) (k : Nat) (v : α) (κ : ev_T α n → β), ev_ts n t k v κ = κ (ev_tS n t k v)
  | 0, _, _, _, _ => rfl
  | n + 1, (l, r), k, v, κ => by
    show cond (Nat.beq (k % 2) 0) (ev_ts n l (k / 2) v (fun l' => κ (l', r))) (ev_ts n r (k / 2) v (fun r' => κ (l, r'))) = κ (cond (Nat.beq (k % 2) 0) (ev_tS n l (k / 2) v, r) (l, ev_tS n r (k / 2) v))
    cases Nat.beq (k % 2) 0
    · exact ev_ts_eq n r (k / 2) v _
    · exact ev_ts_eq n l (k / 2) v _
theorem ev_mod2 (n j : Nat) : j % 2 ^ (n + 1) = j % 2 + 2 * (j / 2 % 2 ^ n) := by
  rw [Nat.pow_succ, Nat.mul_comm]
  exact Nat.mod_mul
theorem ev_b0 (n : Nat) : Nat.beq n 0 = decide (n = 0) := by
  by_cases h : n = 0
  · subst h
    rfl
  · rw [decide_eq_false h]
    cases n with
    | zero => exact absurd rfl h
    | succ n => rfl
theorem ev_tg_S {α : Type} : ∀ (n : Nat) (t : ev_T α n) (k : Nat) (v : α) (j : Nat), ev_tg n (ev_tS n t k v) j = if j % 2 ^ n = k % 2 ^ n then v else ev_tg n t j
  | 0, t, k, v, j => by
    have h : j % 2 ^ 0 = k % 2 ^ 0 := by simp [Nat.mod_one]
    rw [if_pos h]
    rfl
  | n + 1, (l, r), k, v, j => by
    show ev_tg (n + 1) (cond (Nat.beq (k % 2) 0) (ev_tS n l (k / 2) v, r) (l, ev_tS n r (k / 2) v)) j = if j % 2 ^ (n + 1) = k % 2 ^ (n + 1) then v else cond (Nat.beq (j % 2) 0) (ev_tg n l (j / 2)) (ev_tg n r (j / 2))
    rw [ev_mod2 n j, ev_mod2 n k]
    have hk : Nat.beq (k % 2) 0 = decide (k % 2 = 0) := ev_b0 _
    have hj : Nat.beq (j % 2) 0 = decide (j % 2 = 0) := ev_b0 _
    have e1 := ev_tg_S n l (k / 2) v (j / 2)
    have e2 := ev_tg_S n r (k / 2) v (j / 2)
    by_cases a : k % 2 = 0 <;> by_cases b : j % 2 = 0
    · rw [hk, decide_eq_true a]
      show cond (Nat.beq (j % 2) 0) (ev_tg n (ev_tS n l (k / 2) v) (j / 2)) (ev_tg n r (j / 2)) = _
      rw [hj, decide_eq_true b]
      show ev_tg n (ev_tS n l (k / 2) v) (j / 2) = if _ then v else ev_tg n l (j / 2)
      rw [e1]
      by_cases q : j / 2 % 2 ^ n = k / 2 % 2 ^ n
      · rw [if_pos q, if_pos (by omega)]
      · rw [if_neg q, if_neg (by omega)]
    · rw [hk, decide_eq_true a]
      show cond (Nat.beq (j % 2) 0) (ev_tg n (ev_tS n l (k / 2) v) (j / 2)) (ev_tg n r (j / 2)) = _
      rw [hj, decide_eq_false b, if_neg (by omega)]
      rfl
    · rw [hk, decide_eq_false a]
      show cond (Nat.beq (j % 2) 0) (ev_tg n l (j / 2)) (ev_tg n (ev_tS n r (k / 2) v) (j / 2)) = _
      rw [hj, decide_eq_true b, if_neg (by omega)]
      rfl
    · rw [hk, decide_eq_false a]
      show cond (Nat.beq (j % 2) 0) (ev_tg n l (j / 2)) (ev_tg n (ev_tS n r (k / 2) v) (j / 2)) = _
      rw [hj, decide_eq_false b]
      show ev_tg n (ev_tS n r (k / 2) v) (j / 2) = if _ then v else ev_tg n r (j / 2)
      rw [e2]
      by_cases q : j / 2 % 2 ^ n = k / 2 % 2 ^ n
      · rw [if_pos q, if_pos (by omega)]
      · rw [if_neg q, if_neg (by omega)]
/-- numbers are made whole before they go on -/
def ev_fN {β : Type} (n : Nat) (κ : Nat → β) : β := match n with
  | 0 => κ 0
  | m + 1 => κ (m + 1)
theorem ev_fN_eq {β : Type} (n : Nat) (κ : Nat → β) : ev_fN n κ = κ n := by cases n <;> rfl
def ev_fI {β : Type} (z : Int) (κ : Int → β) : β := match z with
  | .ofNat n => ev_fN n (fun m => κ (.ofNat m))
  | .negSucc n => ev_fN n (fun m => κ (.negSucc m))
theorem ev_fI_eq {β : Type} (z : Int) (κ : Int → β) : ev_fI z κ = κ z := by
  cases z with
  | ofNat n => exact ev_fN_eq n (fun m => κ (.ofNat m))
  | negSucc n => exact ev_fN_eq n (fun m => κ (.negSucc m))
def ev_lg {α : Type} : List α → Nat → Option α
  | [], _ => none
  | a :: l, k => match k with
    | 0 => some a
    | k + 1 => ev_lg l k
theorem ev_lg_eq {α : Type} : ∀ (l : List α) (k : Nat), ev_lg l k = l[k]?
  | [], k => by simp [ev_lg]
  | a :: l, 0 => by simp [ev_lg]
  | a :: l, k + 1 => by
    show ev_lg l k = _
    rw [ev_lg_eq l k, List.getElem?_cons_succ]
def ev_ls {α β : Type} : List α → Nat → α → (List α → β) → β → β
  | [], _, _, _, f => f
  | a :: l, k, v, κ, f => match k with
    | 0 => κ (v :: l)
    | k + 1 => ev_ls l k v (fun l' => κ (a :: l')) f
theorem ev_ls_eq {α β : Type} : ∀ (l : List α) (k : Nat) (v : α) (κ : List α → β) (f : β), ev_ls l k v κ f = if k < l.length then κ (l.set k v) else f
  | [], k, v, κ, f => by simp [ev_ls]
  | a :: l, 0, v, κ, f => by simp [ev_ls]
  | a :: l, k + 1, v, κ, f => by
    show ev_ls l k v (fun l' => κ (a :: l')) f = _
    rw [ev_ls_eq l k v _ f]
    simp
/-- how many cells there are; the cells that are known -/
abbrev ev_Hp : Type := Nat × ev_T (Option ev_C) 10
/-- the stack, the locals, the heap, cells and slots made by this frame so far -/
abbrev ev_S : Type := List ev_V × (List (Option ev_V) × (ev_Hp × (Nat × Nat)))
abbrev ev_I : Type := ev_S → Option (Nat × ev_S)
abbrev ev_int (z : Int) : ev_V := .inl (z, z)
abbrev ev_any : ev_V := .inl (-2147483648, 2147483647)
abbrev ev_null : ev_V := .inr (.inr none)
abbrev ev_ref (k : Nat) : ev_V := .inr (.inr (some (.inl k)))
abbrev ev_ext (k : Nat) : ev_V := .inr (.inr (some (.inr k)))
def ev_long (v : ev_V) : Bool := match v with
  | .inr (.inl _) => true
  | _ => false
/-- an int's interval to another's -/
def ev_lt (a b : Int × Int) : Option Bool := match a, b with
  | (a1, a2), (b1, b2) => cond (decide (a2 < b1)) (some true) (cond (decide (b2 ≤ a1)) (some false) none)
def ev_eq (a b : Int × Int) : Option Bool := match a, b with
  | (a1, a2), (b1, b2) => cond (decide (a2 < b1)) (some false) (cond (decide (b2 < a1)) (some false) (cond (decide (a1 = a2) && decide (b1 = b2)) (some true) none))
theorem ev_lt_t {a b : Int × Int} {x y : Int} (h : ev_lt a b = some true) (ha : x ≤ a.2) (hb : b.1 ≤ y) : x < y := by
  obtain ⟨a1, a2⟩ := a
  obtain ⟨b1, b2⟩ := b
  simp only [ev_lt] at h
  by_cases q : a2 < b1
  · dsimp only at ha hb
    omega
  · rw [decide_eq_false q] at h
    by_cases q2 : b2 ≤ a1
    · rw [decide_eq_true q2] at h
      cases h
    · rw [decide_eq_false q2] at h
      cases h
theorem ev_lt_f {a b : Int × Int} {x y : Int} (h : ev_lt a b = some false) (ha : a.1 ≤ x) (hb : y ≤ b.2) : ¬ x < y := by
  obtain ⟨a1, a2⟩ := a
  obtain ⟨b1, b2⟩ := b
  simp only [ev_lt] at h
  by_cases q : a2 < b1
  · rw [decide_eq_true q] at h
    cases h
  · rw [decide_eq_false q] at h
    by_cases q2 : b2 ≤ a1
    · dsimp only at ha hb
      omega
    · rw [decide_eq_false q2] at h
      cases h
theorem ev_eq_t {a b : Int × Int} {x y : Int} (h : ev_eq a b = some true) (ha : a.1 ≤ x) (ha2 : x ≤ a.2) (hb : b.1 ≤ y) (hb2 : y ≤ b.2) : x = y := by
  obtain ⟨a1, a2⟩ := a
  obtain ⟨b1, b2⟩ := b
  simp only [ev_eq] at h
  dsimp only at ha ha2 hb hb2
  by_cases q : a2 < b1
  · rw [decide_eq_true q] at h
    cases h
  · rw [decide_eq_false q] at h
    by_cases q2 : b2 < a1
    · rw [decide_eq_true q2] at h
      cases h
    · rw [decide_eq_false q2] at h
      by_cases q3 : a1 = a2
      · by_cases q4 : b1 = b2
        · omega
        · rw [decide_eq_false q4, decide_eq_true q3] at h
          cases h
      · rw [decide_eq_false q3] at h
        cases h
theorem ev_eq_f {a b : Int × Int} {x y : Int} (h : ev_eq a b = some false) (ha : a.1 ≤ x) (ha2 : x ≤ a.2) (hb : b.1 ≤ y) (hb2 : y ≤ b.2) : ¬ x = y := by
  obtain ⟨a1, a2⟩ := a
  obtain ⟨b1, b2⟩ := b
  simp only [ev_eq] at h
  dsimp only at ha ha2 hb hb2
  by_cases q : a2 < b1
  · omega
  · rw [decide_eq_false q] at h
    by_cases q2 : b2 < a1
    · omega
    · rw [decide_eq_false q2] at h
      by_cases q3 : a1 = a2
      · by_cases q4 : b1 = b2
        · rw [decide_eq_true q4, decide_eq_true q3] at h
          cases h
        · rw [decide_eq_false q4, decide_eq_true q3] at h
          cases h
      · rw [decide_eq_false q3] at h
        cases h
theorem ev_bt {a b : Bool} {α : Type} {x : Option α} {y : α} (h : cond (a && b) x none = some y) : a = true ∧ b = true ∧ x = some y := by
  cases a <;> cases b
  · cases h
  · cases h
  · cases h
  · exact ⟨rfl, rfl, h⟩
theorem ev_bt1 {a : Bool} {α : Type} {x : Option α} {y : α} (h : cond a x none = some y) : a = true ∧ x = some y := by
  cases a
  · cases h
  · exact ⟨rfl, h⟩
end
section
/-! PICTURES AND WORLDS; what an instruction's function must keep (ev_Sim); the rows of the stack, the locals, the branches. -/
def ev_vR (ad : List Nat) (ex : Nat → Value) : ev_V → Value → Prop
  | .inl (lo, hi), w => ∃ x : Int32, w = .int x ∧ lo ≤ x.toInt ∧ x.toInt ≤ hi
  | .inr (.inl (lo, hi)), w => ∃ x : Int64, w = .long x ∧ lo ≤ x.toInt ∧ x.toInt ≤ hi
  | .inr (.inr none), w => w = .null
  | .inr (.inr (some (.inl k))), w => ∃ a, ad[k]? = some a ∧ w = .ref a
  | .inr (.inr (some (.inr j))), w => w = ex j ∧ (w = .null ∨ ∃ a, w = .ref a)
/-- 0: ints and what is narrower; 1: longs; 2: references -/
def ev_kd (ty : FieldType) : Nat := match ty with
  | .long => 1
  | .object _ => 2
  | .array _ => 2
  | .float => 3
  | .double => 3
  | _ => 0
def ev_aR (ad : List Nat) (ex : Nat → Value) (els : List ev_V) : Nat → ((Nat → Int32) ⊕ (Nat → Int64) ⊕ (Nat → UInt32) ⊕ (Nat → UInt64) ⊕ (Nat → Option Nat)) → Prop
  | 0, x => ∃ f, x = .inl f ∧ ∀ j v, els[j]? = some v → ev_vR ad ex v (.int (f j))
  | 1, x => ∃ f, x = .inr (.inl f) ∧ ∀ j v, els[j]? = some v → ev_vR ad ex v (.long (f j))
  | 2, x => ∃ f, x = .inr (.inr (.inr (.inr f))) ∧ ∀ j v, els[j]? = some v → ev_vR ad ex v (va_rf (f j))
  | _, _ => False
def ev_cR (tyOf : Nat → FieldType) (tys : List (ClassId × FieldType)) (ad : List Nat) (ex : Nat → Value) : ev_C → va_E → Prop
  | .inl (ci, fs), e => ∃ vs : List Value, e = .inr (ci, vs) ∧ vs.length = fs.length ∧ ∀ (k : Nat) (v : ev_V), fs[k]? = some v → ∃ w, vs[k]? = some w ∧ ev_vR ad ex v w
  | .inr (tc, n, els), e => ∃ cA x, e = .inl (cA, n, x) ∧ els.length = n ∧ n < 2147483648 ∧ (∃ t0 : Nat, tys[t0]? = some (cA, tyOf tc)) ∧ ev_aR ad ex els (ev_kd (tyOf tc)) x
def ev_hR (ad0 : List Nat) (tyOf : Nat → FieldType) (tys : List (ClassId × FieldType)) (ex : Nat → Value) (h : ev_Hp) (ws : va_W) : Prop :=
  ws.length = h.1 ∧ h.1 ≤ 1024 ∧ (∀ k a : Nat, ad0[k]? = some a → (ws.map Prod.fst)[k]? = some a) ∧ ∀ k, k < 1024 → ∀ q, ev_tg 10 h.2 k = some q → ∃ a e, ws[k]? = some (a, e) ∧ ev_cR tyOf tys (ws.map Prod.fst) ex q e
def ev_lR (ad : List Nat) (ex : Nat → Value) (L : List (Option ev_V)) (lv : List (Nat × Value)) : Prop := ∀ i v, L[i]? = some (some v) → ∃ w, (i, w) ∈ lv ∧ ev_vR ad ex v w
def ev_kR (ad : List Nat) (ex : Nat → Value) : List ev_V → List Value → Prop
  | [], st => st = []
  | v :: l, st => ∃ w r, st = w :: r ∧ ev_vR ad ex v w ∧ ev_kR ad ex l r
/-- from every state of the machine that the picture is of, the end is come to -/
def ev_G (p : Program) (l : Launch) (e : Env) (R : Room) (s : State) (m : MethodId) (args : Array Value) (below : List Frame) (meth : Method) (c : Code) (Q : State → Prop) (nL : Nat) (D : va_G) (cl : List vw_C) (A : Nat → Prop) (H0 : Heap) (ex : Nat → Value) (ad0 : List Nat) (tyOf : Nat → FieldType) (pc : Nat) (st : ev_S) : Prop :=
  ∀ (H : Heap) (locs : List Loc) (ls : Array Slot) (lv : List (Nat × Value)) (sv : List Value) (ws : va_W) (tys : List (ClassId × FieldType)),
    va_K D cl tys s → va_P D cl ws H → va_D A ws → va_S A H0 H locs → ev_hR ad0 tyOf tys ex st.2.2.1 ws → lv_has ls nL lv → st.2.1.length = nL → ev_lR (ws.map Prod.fst) ex st.2.1 lv → ev_kR (ws.map Prod.fst) ex st.1 sv →
    W p l e R s m args below meth c H locs st.2.2.2.1 st.2.2.2.2 Q (F0 m pc ls sv)
/-- what an instruction's function must keep -/
def ev_Sim (p : Program) (l : Launch) (e : Env) (R : Room) (s : State) (m : MethodId) (args : Array Value) (below : List Frame) (meth : Method) (c : Code) (Q : State → Prop) (nL : Nat) (D : va_G) (cl : List vw_C) (A : Nat → Prop) (H0 : Heap) (ex : Nat → Value) (ad0 : List Nat) (tyOf : Nat → FieldType) (pc : Nat) (f : ev_I) : Prop :=
  ∀ (st : ev_S) (pc' : Nat) (st' : ev_S), f st = some (pc', st') → ev_G p l e R s m args below meth c Q nL D cl A H0 ex ad0 tyOf pc' st' → ev_G p l e R s m args below meth c Q nL D cl A H0 ex ad0 tyOf pc st
-- the instructions' functions
def ev_push (n : Nat) (v : ev_V) : ev_I := fun st => match st with
  | (stk, r) => some (n, (v :: stk, r))
def ev_iload (n i : Nat) : ev_I := fun st => match st with
  | (stk, L, r) => match ev_lg L i with
    | some (some (.inl v)) => some (n, (.inl v :: stk, L, r))
    | _ => none
def ev_lload (n i : Nat) : ev_I := fun st => match st with
  | (stk, L, r) => match ev_lg L i with
    | some (some (.inr (.inl v))) => some (n, (.inr (.inl v) :: stk, L, r))
    | _ => none
def ev_aload (n i : Nat) : ev_I := fun st => match st with
  | (stk, L, r) => match ev_lg L i with
    | some (some (.inr (.inr v))) => some (n, (.inr (.inr v) :: stk, L, r))
    | _ => none
/-- no long lies just ahead -/
def ev_free (L : List (Option ev_V)) (i : Nat) : Bool := match i with
  | 0 => true
  | j + 1 => match ev_lg L j with
    | some (some (.inr (.inl _))) => false
    | _ => true
def ev_istore (n i : Nat) : ev_I := fun st => match st with
  | (.inl v :: stk, L, r) => cond (ev_free L i) (ev_ls L i (some (.inl v)) (fun L' => some (n, (stk, L', r))) none) none
  | _ => none
def ev_astore (n i : Nat) : ev_I := fun st => match st with
  | (.inr (.inr v) :: stk, L, r) => cond (ev_free L i) (ev_ls L i (some (.inr (.inr v))) (fun L' => some (n, (stk, L', r))) none) none
  | _ => none
def ev_dup (n : Nat) : ev_I := fun st => match st with
  | (v :: stk, r) => cond (ev_long v) none (some (n, (v :: v :: stk, r)))
  | _ => none
def ev_pop (n : Nat) : ev_I := fun st => match st with
  | (v :: stk, r) => cond (ev_long v) none (some (n, (stk, r)))
  | _ => none
def ev_goto (t : Nat) : ev_I := fun st => some (t, st)
def ev_wr32 (z : Int) : Int := Int.bmod z 4294967296
def ev_iinc (n i : Nat) (d : Int) : ev_I := fun st => match st with
  | (stk, L, r) => match ev_lg L i with
    | some (some (.inl (lo, hi))) => cond (decide (lo = hi) && ev_free L i) (ev_fI (ev_wr32 (lo + d)) (fun z => ev_ls L i (some (.inl (z, z))) (fun L' => some (n, (stk, L', r))) none)) none
    | _ => none
/-- by what was found: on, or to t -/
def ev_to (n t : Nat) (b : Option Bool) (st : ev_S) : Option (Nat × ev_S) := match b with
  | some true => some (t, st)
  | some false => some (n, st)
  | none => none
def ev_not (b : Option Bool) : Option Bool := match b with
  | some true => some false
  | some false => some true
  | none => none
/-- 0 eq, 1 ne, 2 lt, 3 ge, 4 gt, 5 le: of a (below) and b (on top) -/
def ev_rel (k : Nat) (a b : Int × Int) : Option Bool := match k with
  | 0 => ev_eq a b
  | 1 => ev_not (ev_eq a b)
  | 2 => ev_lt a b
  | 3 => ev_not (ev_lt a b)
  | 4 => ev_lt b a
  | 5 => ev_not (ev_lt b a)
  | _ => none
def ev_icmp (k n t : Nat) : ev_I := fun st => match st with
  | (.inl b :: .inl a :: stk, r) => ev_to n t (ev_rel k a b) (stk, r)
  | _ => none
def ev_if (k n t : Nat) : ev_I := fun st => match st with
  | (.inl a :: stk, r) => ev_to n t (ev_rel k a (0, 0)) (stk, r)
  | _ => none
def ev_ifnull (n t : Nat) : ev_I := fun st => match st with
  | (.inr (.inr none) :: stk, r) => some (t, (stk, r))
  | (.inr (.inr (some (.inl _))) :: stk, r) => some (n, (stk, r))
  | _ => none
def ev_ifnonnull (n t : Nat) : ev_I := fun st => match st with
  | (.inr (.inr none) :: stk, r) => some (n, (stk, r))
  | (.inr (.inr (some (.inl _))) :: stk, r) => some (t, (stk, r))
  | _ => none
section EvA
variable {p : Program} {l : Launch} {e : Env} {R : Room} {s : State} {m : MethodId} {args : Array Value} {below : List Frame} {meth : Method} {c : Code} {Q : State → Prop} {nL : Nat} {D : va_G} {cl : List vw_C} {A : Nat → Prop} {H0 : Heap} {ex : Nat → Value} {ad0 : List Nat} {tyOf : Nat → FieldType}
variable {cc : ByteArray} {pc : Nat}
theorem ev_iconst_ok (hx : p.tables.exec = Jvm.exec) (hb : c.code = cc) {z : Int} {x : Int32} (hd : decode cc pc = .ok (.iconst z, 1)) (hv : Int32.ofInt z = x) (hz : x.toInt = z) : ev_Sim p l e R s m args below meth c Q nL D cl A H0 ex ad0 tyOf pc (ev_push (pc + 1) (ev_int z)) := by
  intro st pc' st' h g
  obtain ⟨stk, r⟩ := st
  cases h
  intro H locs ls lv sv ws tys hK hP hD hS hh hl hn hL hs
  exact lv_iconst hx hb hd hv (g H locs ls lv (.int x :: sv) ws tys hK hP hD hS hh hl hn hL ⟨_, _, rfl, ⟨x, rfl, by rw [hz]; exact Int.le_refl _, by rw [hz]; exact Int.le_refl _⟩, hs⟩)
theorem ev_bipush_ok (hx : p.tables.exec = Jvm.exec) (hb : c.code = cc) {z : Int} {x : Int32} (hd : decode cc pc = .ok (.bipush z, 2)) (hv : (Int8.ofInt z).toInt32 = x) (hz : x.toInt = z) : ev_Sim p l e R s m args below meth c Q nL D cl A H0 ex ad0 tyOf pc (ev_push (pc + 2) (ev_int z)) := by
  intro st pc' st' h g
  obtain ⟨stk, r⟩ := st
  cases h
  intro H locs ls lv sv ws tys hK hP hD hS hh hl hn hL hs
  exact lv_bipush hx hb hd hv (g H locs ls lv (.int x :: sv) ws tys hK hP hD hS hh hl hn hL ⟨_, _, rfl, ⟨x, rfl, by rw [hz]; exact Int.le_refl _, by rw [hz]; exact Int.le_refl _⟩, hs⟩)
theorem ev_sipush_ok (hx : p.tables.exec = Jvm.exec) (hb : c.code = cc) {z : Int} {x : Int32} (hd : decode cc pc = .ok (.sipush z, 3)) (hv : (Int16.ofInt z).toInt32 = x) (hz : x.toInt = z) : ev_Sim p l e R s m args below meth c Q nL D cl A H0 ex ad0 tyOf pc (ev_push (pc + 3) (ev_int z)) := by
  intro st pc' st' h g
  obtain ⟨stk, r⟩ := st
  cases h
  intro H locs ls lv sv ws tys hK hP hD hS hh hl hn hL hs
  exact lv_sipush hx hb hd hv (g H locs ls lv (.int x :: sv) ws tys hK hP hD hS hh hl hn hL ⟨_, _, rfl, ⟨x, rfl, by rw [hz]; exact Int.le_refl _, by rw [hz]; exact Int.le_refl _⟩, hs⟩)
theorem ev_ldc_ok (hx : p.tables.exec = Jvm.exec) (hb : c.code = cc) {own : String} {index : Nat} {z : Int} {x : Int32} (ho : s.vm.findClass own = some m.cls) (hc : (Jvm.Cond.constant own index x).before args s = true) (hd : decode cc pc = .ok (.ldc index, 2)) (hz : x.toInt = z) : ev_Sim p l e R s m args below meth c Q nL D cl A H0 ex ad0 tyOf pc (ev_push (pc + 2) (ev_int z)) := by
  intro st pc' st' h g
  obtain ⟨stk, r⟩ := st
  cases h
  intro H locs ls lv sv ws tys hK hP hD hS hh hl hn hL hs
  exact lv_ldc hx hb ho hc hd (g H locs ls lv (.int x :: sv) ws tys hK hP hD hS hh hl hn hL ⟨_, _, rfl, ⟨x, rfl, by rw [hz]; exact Int.le_refl _, by rw [hz]; exact Int.le_refl _⟩, hs⟩)
theorem ev_lconst_ok (hx : p.tables.exec = Jvm.exec) (hb : c.code = cc) {k : Fin 2} {z : Int} {x : Int64} (hd : decode cc pc = .ok (.lconst k, 1)) (hv : Int64.ofNat (k : Nat) = x) (hz : x.toInt = z) : ev_Sim p l e R s m args below meth c Q nL D cl A H0 ex ad0 tyOf pc (ev_push (pc + 1) (.inr (.inl (z, z)))) := by
  intro st pc' st' h g
  obtain ⟨stk, r⟩ := st
  cases h
  intro H locs ls lv sv ws tys hK hP hD hS hh hl hn hL hs
  exact lv_lconst hx hb hd hv (g H locs ls lv (.long x :: sv) ws tys hK hP hD hS hh hl hn hL ⟨_, _, rfl, ⟨x, rfl, by rw [hz]; exact Int.le_refl _, by rw [hz]; exact Int.le_refl _⟩, hs⟩)
theorem ev_ldc2_ok (hx : p.tables.exec = Jvm.exec) (hb : c.code = cc) {own : String} {index : Nat} {z : Int} {x : Int64} (ho : s.vm.findClass own = some m.cls) (hc : (Jvm.Cond.constantLong own index x).before args s = true) (hd : decode cc pc = .ok (.ldc2_w index, 3)) (hz : x.toInt = z) : ev_Sim p l e R s m args below meth c Q nL D cl A H0 ex ad0 tyOf pc (ev_push (pc + 3) (.inr (.inl (z, z)))) := by
  intro st pc' st' h g
  obtain ⟨stk, r⟩ := st
  cases h
  intro H locs ls lv sv ws tys hK hP hD hS hh hl hn hL hs
  exact lv_ldc2 hx hb ho hc hd (g H locs ls lv (.long x :: sv) ws tys hK hP hD hS hh hl hn hL ⟨_, _, rfl, ⟨x, rfl, by rw [hz]; exact Int.le_refl _, by rw [hz]; exact Int.le_refl _⟩, hs⟩)
theorem ev_null_ok (hx : p.tables.exec = Jvm.exec) (hb : c.code = cc) (hd : decode cc pc = .ok (.aconst_null, 1)) : ev_Sim p l e R s m args below meth c Q nL D cl A H0 ex ad0 tyOf pc (ev_push (pc + 1) ev_null) := by
  intro st pc' st' h g
  obtain ⟨stk, r⟩ := st
  cases h
  intro H locs ls lv sv ws tys hK hP hD hS hh hl hn hL hs
  exact lv_null hx hb hd (g H locs ls lv (.null :: sv) ws tys hK hP hD hS hh hl hn hL ⟨_, _, rfl, rfl, hs⟩)
theorem ev_at {ls : Array Slot} {lv : List (Nat × Value)} {i : Nat} {w : Value} (h : lv_has ls nL lv) (hw : (i, w) ∈ lv) : ls[i]? = some (.val w) := h.2.2 (i, w) hw
theorem ev_iload_i {st st' : ev_S} {n i pc' : Nat} (h : ev_iload n i st = some (pc', st')) : ∃ v, st.2.1[i]? = some (some (.inl v)) ∧ pc' = n ∧ st' = (.inl v :: st.1, st.2) := by
  obtain ⟨stk, L, r⟩ := st
  simp only [ev_iload, ev_lg_eq] at h
  split at h
  · next v hv => cases h; exact ⟨v, hv, rfl, rfl⟩
  · cases h
theorem ev_lload_i {st st' : ev_S} {n i pc' : Nat} (h : ev_lload n i st = some (pc', st')) : ∃ v, st.2.1[i]? = some (some (.inr (.inl v))) ∧ pc' = n ∧ st' = (.inr (.inl v) :: st.1, st.2) := by
  obtain ⟨stk, L, r⟩ := st
  simp only [ev_lload, ev_lg_eq] at h
  split at h
  · next v hv => cases h; exact ⟨v, hv, rfl, rfl⟩
  · cases h
theorem ev_aload_i {st st' : ev_S} {n i pc' : Nat} (h : ev_aload n i st = some (pc', st')) : ∃ v, st.2.1[i]? = some (some (.inr (.inr v))) ∧ pc' = n ∧ st' = (.inr (.inr v) :: st.1, st.2) := by
  obtain ⟨stk, L, r⟩ := st
  simp only [ev_aload, ev_lg_eq] at h
  split at h
  · next v hv => cases h; exact ⟨v, hv, rfl, rfl⟩
  · cases h
theorem ev_rf {ad : List Nat} {ex : Nat → Value} {v : Option (Nat ⊕ Nat)} {w : Value} (h : ev_vR ad ex (.inr (.inr v)) w) : (w = .null ∧ True) ∨ ∃ a, w = .ref a ∧ True := by
  match v, h with
  | none, h => exact Or.inl ⟨h, trivial⟩
  | some (.inl k), ⟨a, _, h⟩ => exact Or.inr ⟨a, h, trivial⟩
  | some (.inr j), ⟨_, h⟩ =>
    rcases h with h | ⟨a, h⟩
    · exact Or.inl ⟨h, trivial⟩
    · exact Or.inr ⟨a, h, trivial⟩
theorem ev_iload_n_ok (hx : p.tables.exec = Jvm.exec) (hb : c.code = cc) {k : Fin 4} {i : Nat} (hd : decode cc pc = .ok (.iload_n k, 1)) (hi : (k : Nat) = i) : ev_Sim p l e R s m args below meth c Q nL D cl A H0 ex ad0 tyOf pc (ev_iload (pc + 1) i) := by
  intro st pc' st' h g
  obtain ⟨⟨lo, hh1⟩, hv, rfl, rfl⟩ := ev_iload_i h
  intro H locs ls lv sv ws tys hK hP hD hS hh hl hn hL hs
  obtain ⟨w, hw, x, rfl, h1, h2⟩ := hL i _ hv
  exact lv_iload_n hx hb hd hi (ev_at hl hw) (g H locs ls lv (.int x :: sv) ws tys hK hP hD hS hh hl hn hL ⟨_, _, rfl, ⟨x, rfl, h1, h2⟩, hs⟩)
theorem ev_iload_ok (hx : p.tables.exec = Jvm.exec) (hb : c.code = cc) {i : Nat} (hd : decode cc pc = .ok (.iload i, 2)) : ev_Sim p l e R s m args below meth c Q nL D cl A H0 ex ad0 tyOf pc (ev_iload (pc + 2) i) := by
  intro st pc' st' h g
  obtain ⟨⟨lo, hh1⟩, hv, rfl, rfl⟩ := ev_iload_i h
  intro H locs ls lv sv ws tys hK hP hD hS hh hl hn hL hs
  obtain ⟨w, hw, x, rfl, h1, h2⟩ := hL i _ hv
  exact lv_iload hx hb hd (ev_at hl hw) (g H locs ls lv (.int x :: sv) ws tys hK hP hD hS hh hl hn hL ⟨_, _, rfl, ⟨x, rfl, h1, h2⟩, hs⟩)
theorem ev_lload_n_ok (hx : p.tables.exec = Jvm.exec) (hb : c.code = cc) {k : Fin 4} {i : Nat} (hd : decode cc pc = .ok (.lload_n k, 1)) (hi : (k : Nat) = i) : ev_Sim p l e R s m args below meth c Q nL D cl A H0 ex ad0 tyOf pc (ev_lload (pc + 1) i) := by
  intro st pc' st' h g
  obtain ⟨⟨lo, hh1⟩, hv, rfl, rfl⟩ := ev_lload_i h
  intro H locs ls lv sv ws tys hK hP hD hS hh hl hn hL hs
  obtain ⟨w, hw, x, rfl, h1, h2⟩ := hL i _ hv
  exact lv_lload_n hx hb hd hi (ev_at hl hw) (g H locs ls lv (.long x :: sv) ws tys hK hP hD hS hh hl hn hL ⟨_, _, rfl, ⟨x, rfl, h1, h2⟩, hs⟩)
theorem ev_aload_n_ok (hx : p.tables.exec = Jvm.exec) (hb : c.code = cc) {k : Fin 4} {i : Nat} (hd : decode cc pc = .ok (.aload_n k, 1)) (hi : (k : Nat) = i) : ev_Sim p l e R s m args below meth c Q nL D cl A H0 ex ad0 tyOf pc (ev_aload (pc + 1) i) := by
  intro st pc' st' h g
  obtain ⟨v, hv, rfl, rfl⟩ := ev_aload_i h
  intro H locs ls lv sv ws tys hK hP hD hS hh hl hn hL hs
  obtain ⟨w, hw, hr⟩ := hL i _ hv
  rcases ev_rf hr with ⟨rfl, -⟩ | ⟨a, rfl, -⟩
  · exact lv_aload_nN hx hb hd hi (ev_at hl hw) (g H locs ls lv (.null :: sv) ws tys hK hP hD hS hh hl hn hL ⟨_, _, rfl, hr, hs⟩)
  · exact lv_aload_n hx hb hd hi (ev_at hl hw) (g H locs ls lv (.ref a :: sv) ws tys hK hP hD hS hh hl hn hL ⟨_, _, rfl, hr, hs⟩)
theorem ev_aload_ok (hx : p.tables.exec = Jvm.exec) (hb : c.code = cc) {i : Nat} (hd : decode cc pc = .ok (.aload i, 2)) : ev_Sim p l e R s m args below meth c Q nL D cl A H0 ex ad0 tyOf pc (ev_aload (pc + 2) i) := by
  intro st pc' st' h g
  obtain ⟨v, hv, rfl, rfl⟩ := ev_aload_i h
  intro H locs ls lv sv ws tys hK hP hD hS hh hl hn hL hs
  obtain ⟨w, hw, hr⟩ := hL i _ hv
  rcases ev_rf hr with ⟨rfl, -⟩ | ⟨a, rfl, -⟩
  · exact lv_aloadN hx hb hd (ev_at hl hw) (g H locs ls lv (.null :: sv) ws tys hK hP hD hS hh hl hn hL ⟨_, _, rfl, hr, hs⟩)
  · exact lv_aload hx hb hd (ev_at hl hw) (g H locs ls lv (.ref a :: sv) ws tys hK hP hD hS hh hl hn hL ⟨_, _, rfl, hr, hs⟩)
theorem ev_goto_ok (hx : p.tables.exec = Jvm.exec) (hb : c.code = cc) {off : Int} {t : Nat} (hd : decode cc pc = .ok (.goto off, 3)) (ht : (pc : Int) + off = (t : Int)) : ev_Sim p l e R s m args below meth c Q nL D cl A H0 ex ad0 tyOf pc (ev_goto t) := by
  intro st pc' st' h g
  cases h
  intro H locs ls lv sv ws tys hK hP hD hS hh hl hn hL hs
  exact lv_goto hx hb hd ht (g H locs ls lv sv ws tys hK hP hD hS hh hl hn hL hs)
theorem ev_cat {ad : List Nat} {ex : Nat → Value} {v : ev_V} {w : Value} (h : ev_vR ad ex v w) (hv : ev_long v = false) : w.category = 1 := by
  match v, h, hv with
  | .inl (lo, hi), ⟨x, h, _⟩, _ => rw [h]; rfl
  | .inr (.inr none), h, _ => rw [show w = Value.null from h]; rfl
  | .inr (.inr (some (.inl k))), ⟨a, _, h⟩, _ => rw [h]; rfl
  | .inr (.inr (some (.inr j))), ⟨_, h⟩, _ =>
    rcases h with h | ⟨a, h⟩
    · rw [h]; rfl
    · rw [h]; rfl
theorem ev_dup_ok (hx : p.tables.exec = Jvm.exec) (hb : c.code = cc) (hd : decode cc pc = .ok (.dup, 1)) : ev_Sim p l e R s m args below meth c Q nL D cl A H0 ex ad0 tyOf pc (ev_dup (pc + 1)) := by
  intro st pc' st' h g
  obtain ⟨stk, r⟩ := st
  match stk, h with
  | v :: stk, h =>
    simp only [ev_dup] at h
    cases hv : ev_long v with
    | true => rw [hv] at h; cases h
    | false =>
      rw [hv] at h
      cases h
      intro H locs ls lv sv ws tys hK hP hD hS hh hl hn hL hs
      obtain ⟨w, q, rfl, hw, hq⟩ := hs
      exact lv_dup hx hb hd (ev_cat hw hv) (g H locs ls lv (w :: w :: q) ws tys hK hP hD hS hh hl hn hL ⟨_, _, rfl, hw, _, _, rfl, hw, hq⟩)
theorem ev_pop_ok (hx : p.tables.exec = Jvm.exec) (hb : c.code = cc) (hd : decode cc pc = .ok (.pop, 1)) : ev_Sim p l e R s m args below meth c Q nL D cl A H0 ex ad0 tyOf pc (ev_pop (pc + 1)) := by
  intro st pc' st' h g
  obtain ⟨stk, r⟩ := st
  match stk, h with
  | v :: stk, h =>
    simp only [ev_pop] at h
    cases hv : ev_long v with
    | true => rw [hv] at h; cases h
    | false =>
      rw [hv] at h
      cases h
      intro H locs ls lv sv ws tys hK hP hD hS hh hl hn hL hs
      obtain ⟨w, q, rfl, hw, hq⟩ := hs
      exact lv_pop hx hb hd (ev_cat hw hv) (g H locs ls lv q ws tys hK hP hD hS hh hl hn hL hq)
/-- the locals behind a store -/
theorem ev_lR_set {ad : List Nat} {L : List (Option ev_V)} {lv : List (Nat × Value)} {i : Nat} {v : ev_V} {w : Value} (h : ev_lR ad ex L lv) (hf : ev_free L i = true) (hw : ev_vR ad ex v w) : ev_lR ad ex (L.set i (some v)) ((i, w) :: lv.filter (fun q => !(q.1 == i) && !(q.1 + 1 == i && q.2.category == 2))) := by
  intro j u hj
  by_cases hij : i = j
  · subst hij
    have hlt : i < L.length := by
      have h1 := (List.getElem?_eq_some_iff.mp hj).1
      rwa [List.length_set] at h1
    rw [List.getElem?_set_self hlt] at hj
    cases hj
    exact ⟨w, List.mem_cons_self, hw⟩
  · rw [List.getElem?_set_ne hij] at hj
    obtain ⟨x, hx, hr⟩ := h j u hj
    refine ⟨x, List.mem_cons_of_mem _ (List.mem_filter.mpr ⟨hx, ?_⟩), hr⟩
    have h1 : (j == i) = false := by simpa using fun q => hij q.symm
    have h2 : (j + 1 == i && x.category == 2) = false := by
      cases hji : j + 1 == i with
      | false => rfl
      | true =>
        have e1 : j + 1 = i := by simpa using hji
        subst e1
        simp only [ev_free, ev_lg_eq, hj] at hf
        have hlong : ev_long u = false := by
          match u, hf with
          | .inl _, _ => rfl
          | .inr (.inr _), _ => rfl
        rw [ev_cat hr hlong]
        rfl
    simp only [h1, h2, Bool.not_false, Bool.and_self]
theorem ev_istore_i {st st' : ev_S} {n i pc' : Nat} (h : ev_istore n i st = some (pc', st')) : ∃ v stk, st.1 = .inl v :: stk ∧ ev_free st.2.1 i = true ∧ i < st.2.1.length ∧ pc' = n ∧ st' = (stk, st.2.1.set i (some (.inl v)), st.2.2) := by
  obtain ⟨stk, L, r⟩ := st
  match stk, h with
  | .inl v :: stk, h =>
    simp only [ev_istore] at h
    cases hf : ev_free L i with
    | false => rw [hf] at h; cases h
    | true =>
      rw [hf] at h
      simp only [cond_true, ev_ls_eq] at h
      by_cases hi : i < L.length
      · rw [if_pos hi] at h
        cases h
        exact ⟨v, stk, rfl, rfl, hi, rfl, rfl⟩
      · rw [if_neg hi] at h
        cases h
theorem ev_astore_i {st st' : ev_S} {n i pc' : Nat} (h : ev_astore n i st = some (pc', st')) : ∃ v stk, st.1 = .inr (.inr v) :: stk ∧ ev_free st.2.1 i = true ∧ i < st.2.1.length ∧ pc' = n ∧ st' = (stk, st.2.1.set i (some (.inr (.inr v))), st.2.2) := by
  obtain ⟨stk, L, r⟩ := st
  match stk, h with
  | .inr (.inr v) :: stk, h =>
    simp only [ev_astore] at h
    cases hf : ev_free L i with
    | false => rw [hf] at h; cases h
    | true =>
      rw [hf] at h
      simp only [cond_true, ev_ls_eq] at h
      by_cases hi : i < L.length
      · rw [if_pos hi] at h
        cases h
        exact ⟨v, stk, rfl, rfl, hi, rfl, rfl⟩
      · rw [if_neg hi] at h
        cases h
theorem ev_istore_n_ok (hx : p.tables.exec = Jvm.exec) (hb : c.code = cc) {k : Fin 4} {i : Nat} (hd : decode cc pc = .ok (.istore_n k, 1)) (hi : (k : Nat) = i) : ev_Sim p l e R s m args below meth c Q nL D cl A H0 ex ad0 tyOf pc (ev_istore (pc + 1) i) := by
  intro st pc' st' h g
  obtain ⟨v, stk, e1, hf, hlt, rfl, rfl⟩ := ev_istore_i h
  intro H locs ls lv sv ws tys hK hP hD hS hh hl hn hL hs
  rw [e1] at hs
  obtain ⟨w, q, rfl, ⟨x, rfl, h1, h2⟩, hq⟩ := hs
  exact lv_istore_n hx hb hd hi hl (by rw [← hn]; exact hlt) rfl (fun ls' hl' => g H locs ls' _ q ws tys hK hP hD hS hh hl' (by rw [List.length_set]; exact hn) (ev_lR_set hL hf ⟨x, rfl, h1, h2⟩) hq)
theorem ev_istore_ok (hx : p.tables.exec = Jvm.exec) (hb : c.code = cc) {i : Nat} (hd : decode cc pc = .ok (.istore i, 2)) : ev_Sim p l e R s m args below meth c Q nL D cl A H0 ex ad0 tyOf pc (ev_istore (pc + 2) i) := by
  intro st pc' st' h g
  obtain ⟨v, stk, e1, hf, hlt, rfl, rfl⟩ := ev_istore_i h
  intro H locs ls lv sv ws tys hK hP hD hS hh hl hn hL hs
  rw [e1] at hs
  obtain ⟨w, q, rfl, ⟨x, rfl, h1, h2⟩, hq⟩ := hs
  exact lv_istore hx hb hd hl (by rw [← hn]; exact hlt) rfl (fun ls' hl' => g H locs ls' _ q ws tys hK hP hD hS hh hl' (by rw [List.length_set]; exact hn) (ev_lR_set hL hf ⟨x, rfl, h1, h2⟩) hq)
theorem ev_astore_n_ok (hx : p.tables.exec = Jvm.exec) (hb : c.code = cc) {k : Fin 4} {i : Nat} (hd : decode cc pc = .ok (.astore_n k, 1)) (hi : (k : Nat) = i) : ev_Sim p l e R s m args below meth c Q nL D cl A H0 ex ad0 tyOf pc (ev_astore (pc + 1) i) := by
  intro st pc' st' h g
  obtain ⟨v, stk, e1, hf, hlt, rfl, rfl⟩ := ev_astore_i h
  intro H locs ls lv sv ws tys hK hP hD hS hh hl hn hL hs
  rw [e1] at hs
  obtain ⟨w, q, rfl, hw, hq⟩ := hs
  rcases ev_rf hw with ⟨rfl, -⟩ | ⟨a, rfl, -⟩
  · exact lv_astore_nN hx hb hd hi hl (by rw [← hn]; exact hlt) rfl (fun ls' hl' => g H locs ls' _ q ws tys hK hP hD hS hh hl' (by rw [List.length_set]; exact hn) (ev_lR_set hL hf hw) hq)
  · exact lv_astore_n hx hb hd hi hl (by rw [← hn]; exact hlt) rfl (fun ls' hl' => g H locs ls' _ q ws tys hK hP hD hS hh hl' (by rw [List.length_set]; exact hn) (ev_lR_set hL hf hw) hq)
theorem ev_astore_ok (hx : p.tables.exec = Jvm.exec) (hb : c.code = cc) {i : Nat} (hd : decode cc pc = .ok (.astore i, 2)) : ev_Sim p l e R s m args below meth c Q nL D cl A H0 ex ad0 tyOf pc (ev_astore (pc + 2) i) := by
  intro st pc' st' h g
  obtain ⟨v, stk, e1, hf, hlt, rfl, rfl⟩ := ev_astore_i h
  intro H locs ls lv sv ws tys hK hP hD hS hh hl hn hL hs
  rw [e1] at hs
  obtain ⟨w, q, rfl, hw, hq⟩ := hs
  rcases ev_rf hw with ⟨rfl, -⟩ | ⟨a, rfl, -⟩
  · exact lv_astoreN hx hb hd hl (by rw [← hn]; exact hlt) rfl (fun ls' hl' => g H locs ls' _ q ws tys hK hP hD hS hh hl' (by rw [List.length_set]; exact hn) (ev_lR_set hL hf hw) hq)
  · exact lv_astore hx hb hd hl (by rw [← hn]; exact hlt) rfl (fun ls' hl' => g H locs ls' _ q ws tys hK hP hD hS hh hl' (by rw [List.length_set]; exact hn) (ev_lR_set hL hf hw) hq)
end EvA
end
section
/-! BRANCHES AND ARITHMETIC. -/
def ev_relP (k : Nat) (x y : Int) : Prop := match k with
  | 0 => x = y
  | 1 => ¬ x = y
  | 2 => x < y
  | 3 => y ≤ x
  | 4 => y < x
  | 5 => x ≤ y
  | _ => False
theorem ev_not_i {b : Option Bool} {r : Bool} (h : ev_not b = some r) : b = some (!r) := by
  match b, h with
  | some true, h => cases h; rfl
  | some false, h => cases h; rfl
theorem ev_rel_ok {k : Nat} {a b : Int × Int} {x y : Int} {r : Bool} (h : ev_rel k a b = some r) (ha : a.1 ≤ x) (ha2 : x ≤ a.2) (hb : b.1 ≤ y) (hb2 : y ≤ b.2) : (r = true → ev_relP k x y) ∧ (r = false → ¬ ev_relP k x y) := by
  match k, h with
  | 0, h =>
    refine ⟨fun e => ?_, fun e => ?_⟩ <;> subst e
    · exact ev_eq_t h ha ha2 hb hb2
    · exact ev_eq_f h ha ha2 hb hb2
  | 1, h =>
    refine ⟨fun e => ?_, fun e => ?_⟩ <;> subst e
    · exact ev_eq_f (ev_not_i h) ha ha2 hb hb2
    · exact fun z => z (ev_eq_t (ev_not_i h) ha ha2 hb hb2)
  | 2, h =>
    refine ⟨fun e => ?_, fun e => ?_⟩ <;> subst e
    · exact ev_lt_t h ha2 hb
    · exact ev_lt_f h ha hb2
  | 3, h =>
    refine ⟨fun e => ?_, fun e => ?_⟩ <;> subst e
    · exact Int.not_lt.mp (ev_lt_f (ev_not_i h) ha hb2)
    · exact Int.not_le.mpr (ev_lt_t (ev_not_i h) ha2 hb)
  | 4, h =>
    refine ⟨fun e => ?_, fun e => ?_⟩ <;> subst e
    · exact ev_lt_t h hb2 ha
    · exact ev_lt_f h hb ha2
  | 5, h =>
    refine ⟨fun e => ?_, fun e => ?_⟩ <;> subst e
    · exact Int.not_lt.mp (ev_lt_f (ev_not_i h) hb ha2)
    · exact Int.not_le.mpr (ev_lt_t (ev_not_i h) hb2 ha)
/-- two ints on the stack to one: known ones are reckoned -/
def ev_bin (f : Int → Int → Int) (n : Nat) : ev_I := fun st => match st with
  | (.inl (b1, b2) :: .inl (a1, a2) :: stk, r) => cond (decide (a1 = a2) && decide (b1 = b2)) (ev_fI (f a1 b1) (fun z => some (n, (.inl (z, z) :: stk, r)))) (some (n, (ev_any :: stk, r)))
  | _ => none
def ev_add (x y : Int) : Int := Int.bmod (x + y) 4294967296
def ev_sub (x y : Int) : Int := Int.bmod (x - y) 4294967296
def ev_mul (x y : Int) : Int := Int.bmod (x * y) 4294967296
def ev_u (x : Int) : Nat := (x % 4294967296).toNat
def ev_and (x y : Int) : Int := Int.bmod ((Nat.land (ev_u x) (ev_u y) : Nat) : Int) 4294967296
def ev_xor (x y : Int) : Int := Int.bmod ((Nat.xor (ev_u x) (ev_u y) : Nat) : Int) 4294967296
/-- two ints to one of which nothing is said; nothing of zero shifted is zero -/
def ev_shr (n : Nat) : ev_I := fun st => match st with
  | (.inl _ :: .inl _ :: stk, r) => some (n, (ev_any :: stk, r))
  | _ => none
def ev_ushr (n : Nat) : ev_I := fun st => match st with
  | (.inl _ :: .inl (a1, a2) :: stk, r) => cond (decide (a1 = 0) && decide (a2 = 0)) (some (n, (ev_int 0 :: stk, r))) (some (n, (ev_any :: stk, r)))
  | _ => none
/-- an int to an int: known ones are reckoned, others lie from lo to hi -/
def ev_un (f : Int → Int) (lo hi : Int) (n : Nat) : ev_I := fun st => match st with
  | (.inl (a1, a2) :: stk, r) => cond (decide (a1 = a2)) (ev_fI (f a1) (fun z => some (n, (.inl (z, z) :: stk, r)))) (some (n, (.inl (lo, hi) :: stk, r)))
  | _ => none
def ev_b8 (x : Int) : Int := Int.bmod x 256
def ev_c16 (x : Int) : Int := x % 65536
def ev_i2l (n : Nat) : ev_I := fun st => match st with
  | (.inl v :: stk, r) => some (n, (.inr (.inl v) :: stk, r))
  | _ => none
def ev_l2i (n : Nat) : ev_I := fun st => match st with
  | (.inr (.inl (a1, a2)) :: stk, r) => cond (decide (-2147483648 ≤ a1) && decide (a2 ≤ 2147483647)) (some (n, (.inl (a1, a2) :: stk, r))) (some (n, (ev_any :: stk, r)))
  | _ => none
def ev_ladd (n : Nat) : ev_I := fun st => match st with
  | (.inr (.inl (b1, b2)) :: .inr (.inl (a1, a2)) :: stk, r) => cond (decide (-9223372036854775808 ≤ a1 + b1) && decide (a2 + b2 ≤ 9223372036854775807)) (ev_fI (a1 + b1) (fun z => ev_fI (a2 + b2) (fun z2 => some (n, (.inr (.inl (z, z2)) :: stk, r))))) none
  | _ => none
def ev_lcmp (n : Nat) : ev_I := fun st => match st with
  | (.inr (.inl b) :: .inr (.inl a) :: stk, r) => match ev_lt a b with
    | some true => some (n, (ev_int (-1) :: stk, r))
    | _ => match ev_lt b a with
      | some true => some (n, (ev_int 1 :: stk, r))
      | _ => match ev_eq a b with
        | some true => some (n, (ev_int 0 :: stk, r))
        | _ => none
  | _ => none
theorem ev_u_eq (x : Int32) : ev_u x.toInt = x.toBitVec.toNat := by
  unfold ev_u
  rw [show x.toInt = x.toBitVec.toInt from rfl, BitVec.toInt_eq_toNat_cond]
  have h := x.toBitVec.isLt
  split <;> omega
theorem ev_and_ok (x y : Int32) : (x &&& y).toInt = ev_and x.toInt y.toInt := by
  unfold ev_and
  rw [ev_u_eq, ev_u_eq]
  rw [show (x &&& y).toInt = (x &&& y).toBitVec.toInt from rfl, BitVec.toInt_eq_toNat_bmod, Int32.toBitVec_and, BitVec.toNat_and]
  rfl
theorem ev_xor_ok (x y : Int32) : (x ^^^ y).toInt = ev_xor x.toInt y.toInt := by
  unfold ev_xor
  rw [ev_u_eq, ev_u_eq]
  rw [show (x ^^^ y).toInt = (x ^^^ y).toBitVec.toInt from rfl, BitVec.toInt_eq_toNat_bmod, Int32.toBitVec_xor, BitVec.toNat_xor]
  rfl
theorem ev_in (x : Int32) : -2147483648 ≤ x.toInt ∧ x.toInt ≤ 2147483647 := by
  have h1 := Int32.le_toInt x
  have h2 := Int32.toInt_lt x
  omega
theorem ev_c16_ok (x : Int32) : ((x.toUInt32 % 65536).toInt32).toInt = ev_c16 x.toInt := by
  rw [pk_char x]
  have h := x.toBitVec.isLt
  rw [nI_toInt (by omega)]
  unfold ev_c16
  rw [show x.toInt = x.toBitVec.toInt from rfl, BitVec.toInt_eq_toNat_cond]
  split <;> omega
theorem ev_b8_ok (x : Int32) : (x.toInt8.toInt32).toInt = ev_b8 x.toInt := by
  rw [Int8.toInt_toInt32, Int32.toInt_toInt8]
  rfl
theorem ev_b8_in (x : Int32) : -128 ≤ (x.toInt8.toInt32).toInt ∧ (x.toInt8.toInt32).toInt ≤ 127 := by
  rw [ev_b8_ok]
  unfold ev_b8
  rw [Int.bmod_def]
  split <;> omega
theorem ev_c16_in (x : Int32) : 0 ≤ ((x.toUInt32 % 65536).toInt32).toInt ∧ ((x.toUInt32 % 65536).toInt32).toInt ≤ 65535 := by
  rw [ev_c16_ok]
  unfold ev_c16
  omega
section EvB
variable {p : Program} {l : Launch} {e : Env} {R : Room} {s : State} {m : MethodId} {args : Array Value} {below : List Frame} {meth : Method} {c : Code} {Q : State → Prop} {nL : Nat} {D : va_G} {cl : List vw_C} {A : Nat → Prop} {H0 : Heap} {ex : Nat → Value} {ad0 : List Nat} {tyOf : Nat → FieldType}
variable {cc : ByteArray} {pc : Nat}
theorem ev_to_i {n t : Nat} {b : Option Bool} {st st' : ev_S} {pc' : Nat} (h : ev_to n t b st = some (pc', st')) : ∃ r, b = some r ∧ pc' = (if r then t else n) ∧ st' = st := by
  match b, h with
  | some true, h => cases h; exact ⟨true, rfl, rfl, rfl⟩
  | some false, h => cases h; exact ⟨false, rfl, rfl, rfl⟩
theorem ev_icmp_gen {k n t : Nat} {P : Int32 → Int32 → Prop} (hP : ∀ x y : Int32, P x y ↔ ev_relP k x.toInt y.toInt)
    (row : ∀ (H : Heap) (locs : List Loc) (cells slots : Nat) (ls : Array Slot) (rest : List Value) (x y : Int32), (P x y → W p l e R s m args below meth c H locs cells slots Q (F0 m t ls rest)) → (¬ P x y → W p l e R s m args below meth c H locs cells slots Q (F0 m n ls rest)) → W p l e R s m args below meth c H locs cells slots Q (F0 m pc ls (.int y :: .int x :: rest))) : ev_Sim p l e R s m args below meth c Q nL D cl A H0 ex ad0 tyOf pc (ev_icmp k n t) := by
  intro st pc' st' h g
  obtain ⟨stk, r⟩ := st
  match stk, h with
  | .inl b :: .inl a :: stk, h =>
    obtain ⟨q, e1, rfl, rfl⟩ := ev_to_i h
    intro H locs ls lv sv ws tys hK hPP hD hS hh hl hn hL hs
    obtain ⟨w, r1, rfl, ⟨y, rfl, hy1, hy2⟩, w2, r2, rfl, ⟨x, rfl, hx1, hx2⟩, hs⟩ := hs
    obtain ⟨f1, f2⟩ := ev_rel_ok e1 hx1 hx2 hy1 hy2
    refine row H locs _ _ ls r2 x y (fun z => ?_) (fun z => ?_)
    · cases q with
      | true => exact g H locs ls lv r2 ws tys hK hPP hD hS hh hl hn hL hs
      | false => exact absurd ((hP x y).mp z) (f2 rfl)
    · cases q with
      | true => exact absurd ((hP x y).mpr (f1 rfl)) z
      | false => exact g H locs ls lv r2 ws tys hK hPP hD hS hh hl hn hL hs
theorem ev_if_gen {k n t : Nat} {P : Int32 → Prop} (hP : ∀ x : Int32, P x ↔ ev_relP k x.toInt 0)
    (row : ∀ (H : Heap) (locs : List Loc) (cells slots : Nat) (ls : Array Slot) (rest : List Value) (x : Int32), (P x → W p l e R s m args below meth c H locs cells slots Q (F0 m t ls rest)) → (¬ P x → W p l e R s m args below meth c H locs cells slots Q (F0 m n ls rest)) → W p l e R s m args below meth c H locs cells slots Q (F0 m pc ls (.int x :: rest))) : ev_Sim p l e R s m args below meth c Q nL D cl A H0 ex ad0 tyOf pc (ev_if k n t) := by
  intro st pc' st' h g
  obtain ⟨stk, r⟩ := st
  match stk, h with
  | .inl a :: stk, h =>
    obtain ⟨q, e1, rfl, rfl⟩ := ev_to_i h
    intro H locs ls lv sv ws tys hK hPP hD hS hh hl hn hL hs
    obtain ⟨w2, r2, rfl, ⟨x, rfl, hx1, hx2⟩, hs⟩ := hs
    obtain ⟨f1, f2⟩ := ev_rel_ok e1 hx1 hx2 (Int.le_refl 0) (Int.le_refl 0)
    refine row H locs _ _ ls r2 x (fun z => ?_) (fun z => ?_)
    · cases q with
      | true => exact g H locs ls lv r2 ws tys hK hPP hD hS hh hl hn hL hs
      | false => exact absurd ((hP x).mp z) (f2 rfl)
    · cases q with
      | true => exact absurd ((hP x).mpr (f1 rfl)) z
      | false => exact g H locs ls lv r2 ws tys hK hPP hD hS hh hl hn hL hs
theorem ev_icmp_eq_ok (hx : p.tables.exec = Jvm.exec) (hb : c.code = cc) {off : Int} {t : Nat} (hd : decode cc pc = .ok (.if_icmp .eq off, 3)) (ht : (pc : Int) + off = (t : Int)) : ev_Sim p l e R s m args below meth c Q nL D cl A H0 ex ad0 tyOf pc (ev_icmp 0 (pc + 3) t) :=
  ev_icmp_gen (P := fun x y => x = y) (fun x y => Int32.toInt_inj.symm) (fun _ _ _ _ _ _ _ _ kt kf => lv_icmp_eq hx hb hd ht kt kf)
theorem ev_icmp_ne_ok (hx : p.tables.exec = Jvm.exec) (hb : c.code = cc) {off : Int} {t : Nat} (hd : decode cc pc = .ok (.if_icmp .ne off, 3)) (ht : (pc : Int) + off = (t : Int)) : ev_Sim p l e R s m args below meth c Q nL D cl A H0 ex ad0 tyOf pc (ev_icmp 1 (pc + 3) t) :=
  ev_icmp_gen (P := fun x y => ¬ x = y) (fun x y => not_congr Int32.toInt_inj.symm) (fun _ _ _ _ _ _ _ _ kt kf => lv_icmp_ne hx hb hd ht kt (fun z => kf (fun w => w z)))
theorem ev_icmp_lt_ok (hx : p.tables.exec = Jvm.exec) (hb : c.code = cc) {off : Int} {t : Nat} (hd : decode cc pc = .ok (.if_icmp .lt off, 3)) (ht : (pc : Int) + off = (t : Int)) : ev_Sim p l e R s m args below meth c Q nL D cl A H0 ex ad0 tyOf pc (ev_icmp 2 (pc + 3) t) :=
  ev_icmp_gen (P := fun x y => x < y) (fun x y => Int32.lt_iff_toInt_lt) (fun _ _ _ _ _ _ _ _ kt kf => lv_icmp_lt hx hb hd ht kt kf)
theorem ev_icmp_ge_ok (hx : p.tables.exec = Jvm.exec) (hb : c.code = cc) {off : Int} {t : Nat} (hd : decode cc pc = .ok (.if_icmp .ge off, 3)) (ht : (pc : Int) + off = (t : Int)) : ev_Sim p l e R s m args below meth c Q nL D cl A H0 ex ad0 tyOf pc (ev_icmp 3 (pc + 3) t) :=
  ev_icmp_gen (P := fun x y => y ≤ x) (fun x y => Int32.le_iff_toInt_le) (fun _ _ _ _ _ _ _ _ kt kf => lv_icmp_ge hx hb hd ht kt kf)
theorem ev_icmp_gt_ok (hx : p.tables.exec = Jvm.exec) (hb : c.code = cc) {off : Int} {t : Nat} (hd : decode cc pc = .ok (.if_icmp .gt off, 3)) (ht : (pc : Int) + off = (t : Int)) : ev_Sim p l e R s m args below meth c Q nL D cl A H0 ex ad0 tyOf pc (ev_icmp 4 (pc + 3) t) :=
  ev_icmp_gen (P := fun x y => y < x) (fun x y => Int32.lt_iff_toInt_lt) (fun _ _ _ _ _ _ _ _ kt kf => lv_icmp_gt hx hb hd ht kt kf)
theorem ev_icmp_le_ok (hx : p.tables.exec = Jvm.exec) (hb : c.code = cc) {off : Int} {t : Nat} (hd : decode cc pc = .ok (.if_icmp .le off, 3)) (ht : (pc : Int) + off = (t : Int)) : ev_Sim p l e R s m args below meth c Q nL D cl A H0 ex ad0 tyOf pc (ev_icmp 5 (pc + 3) t) :=
  ev_icmp_gen (P := fun x y => x ≤ y) (fun x y => Int32.le_iff_toInt_le) (fun _ _ _ _ _ _ _ _ kt kf => lv_icmp_le hx hb hd ht kt kf)
theorem ev_if_eq_ok (hx : p.tables.exec = Jvm.exec) (hb : c.code = cc) {off : Int} {t : Nat} (hd : decode cc pc = .ok (.ifCond .eq off, 3)) (ht : (pc : Int) + off = (t : Int)) : ev_Sim p l e R s m args below meth c Q nL D cl A H0 ex ad0 tyOf pc (ev_if 0 (pc + 3) t) :=
  ev_if_gen (P := fun x => x = 0) (fun x => (Int32.toInt_inj (y := 0)).symm) (fun _ _ _ _ _ _ _ kt kf => lv_if_eq hx hb hd ht kt kf)
theorem ev_if_ne_ok (hx : p.tables.exec = Jvm.exec) (hb : c.code = cc) {off : Int} {t : Nat} (hd : decode cc pc = .ok (.ifCond .ne off, 3)) (ht : (pc : Int) + off = (t : Int)) : ev_Sim p l e R s m args below meth c Q nL D cl A H0 ex ad0 tyOf pc (ev_if 1 (pc + 3) t) :=
  ev_if_gen (P := fun x => ¬ x = 0) (fun x => not_congr (Int32.toInt_inj (y := 0)).symm) (fun _ _ _ _ _ _ _ kt kf => lv_if_ne hx hb hd ht kt (fun z => kf (fun w => w z)))
theorem ev_if_lt_ok (hx : p.tables.exec = Jvm.exec) (hb : c.code = cc) {off : Int} {t : Nat} (hd : decode cc pc = .ok (.ifCond .lt off, 3)) (ht : (pc : Int) + off = (t : Int)) : ev_Sim p l e R s m args below meth c Q nL D cl A H0 ex ad0 tyOf pc (ev_if 2 (pc + 3) t) :=
  ev_if_gen (P := fun x => x < 0) (fun x => Int32.lt_iff_toInt_lt (y := 0)) (fun _ _ _ _ _ _ _ kt kf => lv_if_lt hx hb hd ht kt kf)
theorem ev_if_ge_ok (hx : p.tables.exec = Jvm.exec) (hb : c.code = cc) {off : Int} {t : Nat} (hd : decode cc pc = .ok (.ifCond .ge off, 3)) (ht : (pc : Int) + off = (t : Int)) : ev_Sim p l e R s m args below meth c Q nL D cl A H0 ex ad0 tyOf pc (ev_if 3 (pc + 3) t) :=
  ev_if_gen (P := fun x => 0 ≤ x) (fun x => Int32.le_iff_toInt_le (x := 0)) (fun _ _ _ _ _ _ _ kt kf => lv_if_ge hx hb hd ht kt kf)
theorem ev_if_gt_ok (hx : p.tables.exec = Jvm.exec) (hb : c.code = cc) {off : Int} {t : Nat} (hd : decode cc pc = .ok (.ifCond .gt off, 3)) (ht : (pc : Int) + off = (t : Int)) : ev_Sim p l e R s m args below meth c Q nL D cl A H0 ex ad0 tyOf pc (ev_if 4 (pc + 3) t) :=
  ev_if_gen (P := fun x => 0 < x) (fun x => Int32.lt_iff_toInt_lt (x := 0)) (fun _ _ _ _ _ _ _ kt kf => lv_if_gt hx hb hd ht kt kf)
theorem ev_if_le_ok (hx : p.tables.exec = Jvm.exec) (hb : c.code = cc) {off : Int} {t : Nat} (hd : decode cc pc = .ok (.ifCond .le off, 3)) (ht : (pc : Int) + off = (t : Int)) : ev_Sim p l e R s m args below meth c Q nL D cl A H0 ex ad0 tyOf pc (ev_if 5 (pc + 3) t) :=
  ev_if_gen (P := fun x => x ≤ 0) (fun x => Int32.le_iff_toInt_le (y := 0)) (fun _ _ _ _ _ _ _ kt kf => lv_if_le hx hb hd ht kt kf)
theorem ev_ifnull_ok (hx : p.tables.exec = Jvm.exec) (hb : c.code = cc) {off : Int} {t : Nat} (hd : decode cc pc = .ok (.ifnull off, 3)) (ht : (pc : Int) + off = (t : Int)) : ev_Sim p l e R s m args below meth c Q nL D cl A H0 ex ad0 tyOf pc (ev_ifnull (pc + 3) t) := by
  intro st pc' st' h g
  obtain ⟨stk, r⟩ := st
  match stk, h with
  | .inr (.inr none) :: stk, h =>
    cases h
    intro H locs ls lv sv ws tys hK hP hD hS hh hl hn hL hs
    obtain ⟨w, q, rfl, hw, hq⟩ := hs
    rw [show w = Value.null from hw]
    exact lv_ifnullN hx hb hd ht (g H locs ls lv q ws tys hK hP hD hS hh hl hn hL hq)
  | .inr (.inr (some (.inl u))) :: stk, h =>
    cases h
    intro H locs ls lv sv ws tys hK hP hD hS hh hl hn hL hs
    obtain ⟨w, q, rfl, hw, hq⟩ := hs
    obtain ⟨a, -, rfl⟩ := hw
    exact lv_ifnull hx hb hd (g H locs ls lv q ws tys hK hP hD hS hh hl hn hL hq)
theorem ev_ifnonnull_ok (hx : p.tables.exec = Jvm.exec) (hb : c.code = cc) {off : Int} {t : Nat} (hd : decode cc pc = .ok (.ifnonnull off, 3)) (ht : (pc : Int) + off = (t : Int)) : ev_Sim p l e R s m args below meth c Q nL D cl A H0 ex ad0 tyOf pc (ev_ifnonnull (pc + 3) t) := by
  intro st pc' st' h g
  obtain ⟨stk, r⟩ := st
  match stk, h with
  | .inr (.inr none) :: stk, h =>
    cases h
    intro H locs ls lv sv ws tys hK hP hD hS hh hl hn hL hs
    obtain ⟨w, q, rfl, hw, hq⟩ := hs
    rw [show w = Value.null from hw]
    exact lv_ifnonnullN hx hb hd (g H locs ls lv q ws tys hK hP hD hS hh hl hn hL hq)
  | .inr (.inr (some (.inl u))) :: stk, h =>
    cases h
    intro H locs ls lv sv ws tys hK hP hD hS hh hl hn hL hs
    obtain ⟨w, q, rfl, hw, hq⟩ := hs
    obtain ⟨a, -, rfl⟩ := hw
    exact lv_ifnonnull hx hb hd ht (g H locs ls lv q ws tys hK hP hD hS hh hl hn hL hq)
theorem ev_bin_gen {f : Int → Int → Int} {op : Int32 → Int32 → Int32} {n : Nat} (hop : ∀ x y : Int32, (op x y).toInt = f x.toInt y.toInt)
    (row : ∀ (H : Heap) (locs : List Loc) (cells slots : Nat) (ls : Array Slot) (rest : List Value) (x y : Int32), W p l e R s m args below meth c H locs cells slots Q (F0 m n ls (.int (op x y) :: rest)) → W p l e R s m args below meth c H locs cells slots Q (F0 m pc ls (.int y :: .int x :: rest))) : ev_Sim p l e R s m args below meth c Q nL D cl A H0 ex ad0 tyOf pc (ev_bin f n) := by
  intro st pc' st' h g
  obtain ⟨stk, r⟩ := st
  match stk, h with
  | .inl (b1, b2) :: .inl (a1, a2) :: stk, h =>
    simp only [ev_bin, ev_fI_eq] at h
    intro H locs ls lv sv ws tys hK hP hD hS hh hl hn hL hs
    obtain ⟨w, r1, rfl, ⟨y, rfl, hy1, hy2⟩, w2, r2, rfl, ⟨x, rfl, hx1, hx2⟩, hs⟩ := hs
    refine row H locs _ _ ls r2 x y ?_
    by_cases q : a1 = a2
    · by_cases q2 : b1 = b2
      · rw [decide_eq_true q, decide_eq_true q2] at h
        cases h
        have ex9 : x.toInt = a1 := by omega
        have ey9 : y.toInt = b1 := by omega
        have e9 : (op x y).toInt = f a1 b1 := by rw [hop, ex9, ey9]
        exact g H locs ls lv (.int (op x y) :: r2) ws tys hK hP hD hS hh hl hn hL ⟨_, _, rfl, ⟨_, rfl, by rw [e9]; exact Int.le_refl _, by rw [e9]; exact Int.le_refl _⟩, hs⟩
      · rw [decide_eq_false q2, Bool.and_false] at h
        cases h
        exact g H locs ls lv (.int (op x y) :: r2) ws tys hK hP hD hS hh hl hn hL ⟨_, _, rfl, ⟨_, rfl, ev_in _⟩, hs⟩
    · rw [decide_eq_false q] at h
      cases h
      exact g H locs ls lv (.int (op x y) :: r2) ws tys hK hP hD hS hh hl hn hL ⟨_, _, rfl, ⟨_, rfl, ev_in _⟩, hs⟩
theorem ev_iadd_ok (hx : p.tables.exec = Jvm.exec) (hb : c.code = cc) (hd : decode cc pc = .ok (.iadd, 1)) : ev_Sim p l e R s m args below meth c Q nL D cl A H0 ex ad0 tyOf pc (ev_bin ev_add (pc + 1)) :=
  ev_bin_gen (op := fun x y => x + y) (fun x y => Int32.toInt_add x y) (fun _ _ _ _ _ _ _ _ k => lv_iadd hx hb hd k)
theorem ev_isub_ok (hx : p.tables.exec = Jvm.exec) (hb : c.code = cc) (hd : decode cc pc = .ok (.isub, 1)) : ev_Sim p l e R s m args below meth c Q nL D cl A H0 ex ad0 tyOf pc (ev_bin ev_sub (pc + 1)) :=
  ev_bin_gen (op := fun x y => x - y) (fun x y => Int32.toInt_sub x y) (fun _ _ _ _ _ _ _ _ k => lv_isub hx hb hd k)
theorem ev_imul_ok (hx : p.tables.exec = Jvm.exec) (hb : c.code = cc) (hd : decode cc pc = .ok (.imul, 1)) : ev_Sim p l e R s m args below meth c Q nL D cl A H0 ex ad0 tyOf pc (ev_bin ev_mul (pc + 1)) :=
  ev_bin_gen (op := fun x y => x * y) (fun x y => Int32.toInt_mul x y) (fun _ _ _ _ _ _ _ _ k => lv_imul hx hb hd k)
theorem ev_iand_ok (hx : p.tables.exec = Jvm.exec) (hb : c.code = cc) (hd : decode cc pc = .ok (.iand, 1)) : ev_Sim p l e R s m args below meth c Q nL D cl A H0 ex ad0 tyOf pc (ev_bin ev_and (pc + 1)) :=
  ev_bin_gen (op := fun x y => x &&& y) (fun x y => ev_and_ok x y) (fun _ _ _ _ _ _ _ _ k => lv_iand hx hb hd k)
theorem ev_ixor_ok (hx : p.tables.exec = Jvm.exec) (hb : c.code = cc) (hd : decode cc pc = .ok (.ixor, 1)) : ev_Sim p l e R s m args below meth c Q nL D cl A H0 ex ad0 tyOf pc (ev_bin ev_xor (pc + 1)) :=
  ev_bin_gen (op := fun x y => x ^^^ y) (fun x y => ev_xor_ok x y) (fun _ _ _ _ _ _ _ _ k => lv_ixor hx hb hd k)
theorem ev_ishr_ok (hx : p.tables.exec = Jvm.exec) (hb : c.code = cc) (hd : decode cc pc = .ok (.ishr, 1)) : ev_Sim p l e R s m args below meth c Q nL D cl A H0 ex ad0 tyOf pc (ev_shr (pc + 1)) := by
  intro st pc' st' h g
  obtain ⟨stk, r⟩ := st
  match stk, h with
  | .inl b :: .inl a :: stk, h =>
    cases h
    intro H locs ls lv sv ws tys hK hP hD hS hh hl hn hL hs
    obtain ⟨w, r1, rfl, ⟨y, rfl, hy1, hy2⟩, w2, r2, rfl, ⟨x, rfl, hx1, hx2⟩, hs⟩ := hs
    exact lv_ishr hx hb hd (g H locs ls lv (.int _ :: r2) ws tys hK hP hD hS hh hl hn hL ⟨_, _, rfl, ⟨_, rfl, ev_in _⟩, hs⟩)
theorem ev_ushr0 (y : Int32) : ((0 : Int32).toUInt32 >>> (y.toUInt32 &&& Int32.toUInt32 31)).toInt32 = 0 := by
  have h := pk_ushr 0 y _ rfl
  rw [show (0 : Int32).toBitVec.toNat = 0 from rfl, Nat.zero_div] at h
  exact Int32.toBitVec_inj.mp (BitVec.eq_of_toNat_eq (h.trans rfl))
theorem ev_iushr_ok (hx : p.tables.exec = Jvm.exec) (hb : c.code = cc) (hd : decode cc pc = .ok (.iushr, 1)) : ev_Sim p l e R s m args below meth c Q nL D cl A H0 ex ad0 tyOf pc (ev_ushr (pc + 1)) := by
  intro st pc' st' h g
  obtain ⟨stk, r⟩ := st
  match stk, h with
  | .inl b :: .inl (a1, a2) :: stk, h =>
    simp only [ev_ushr] at h
    intro H locs ls lv sv ws tys hK hP hD hS hh hl hn hL hs
    obtain ⟨w, r1, rfl, ⟨y, rfl, hy1, hy2⟩, w2, r2, rfl, ⟨x, rfl, hx1, hx2⟩, hs⟩ := hs
    refine lv_iushr hx hb hd rfl ?_
    by_cases q : a1 = 0
    · by_cases q2 : a2 = 0
      · rw [decide_eq_true q, decide_eq_true q2] at h
        cases h
        have ex9 : x = 0 := Int32.toInt_inj.mp (show x.toInt = 0 by omega)
        subst ex9
        rw [ev_ushr0]
        exact g H locs ls lv (.int 0 :: r2) ws tys hK hP hD hS hh hl hn hL ⟨_, _, rfl, ⟨0, rfl, Int.le_refl _, Int.le_refl _⟩, hs⟩
      · rw [decide_eq_false q2, Bool.and_false] at h
        cases h
        exact g H locs ls lv (.int _ :: r2) ws tys hK hP hD hS hh hl hn hL ⟨_, _, rfl, ⟨_, rfl, ev_in _⟩, hs⟩
    · rw [decide_eq_false q] at h
      cases h
      exact g H locs ls lv (.int _ :: r2) ws tys hK hP hD hS hh hl hn hL ⟨_, _, rfl, ⟨_, rfl, ev_in _⟩, hs⟩
theorem ev_un_gen {f : Int → Int} {op : Int32 → Int32} {lo hi : Int} {n : Nat} (hop : ∀ x : Int32, (op x).toInt = f x.toInt) (hin : ∀ x : Int32, lo ≤ (op x).toInt ∧ (op x).toInt ≤ hi)
    (row : ∀ (H : Heap) (locs : List Loc) (cells slots : Nat) (ls : Array Slot) (rest : List Value) (x : Int32), W p l e R s m args below meth c H locs cells slots Q (F0 m n ls (.int (op x) :: rest)) → W p l e R s m args below meth c H locs cells slots Q (F0 m pc ls (.int x :: rest))) : ev_Sim p l e R s m args below meth c Q nL D cl A H0 ex ad0 tyOf pc (ev_un f lo hi n) := by
  intro st pc' st' h g
  obtain ⟨stk, r⟩ := st
  match stk, h with
  | .inl (a1, a2) :: stk, h =>
    simp only [ev_un, ev_fI_eq] at h
    intro H locs ls lv sv ws tys hK hP hD hS hh hl hn hL hs
    obtain ⟨w2, r2, rfl, ⟨x, rfl, hx1, hx2⟩, hs⟩ := hs
    refine row H locs _ _ ls r2 x ?_
    by_cases q : a1 = a2
    · rw [decide_eq_true q] at h
      cases h
      have e9 : (op x).toInt = f a1 := by rw [hop, show x.toInt = a1 by omega]
      exact g H locs ls lv (.int (op x) :: r2) ws tys hK hP hD hS hh hl hn hL ⟨_, _, rfl, ⟨_, rfl, by rw [e9]; exact Int.le_refl _, by rw [e9]; exact Int.le_refl _⟩, hs⟩
    · rw [decide_eq_false q] at h
      cases h
      exact g H locs ls lv (.int (op x) :: r2) ws tys hK hP hD hS hh hl hn hL ⟨_, _, rfl, ⟨_, rfl, hin x⟩, hs⟩
theorem ev_i2b_ok (hx : p.tables.exec = Jvm.exec) (hb : c.code = cc) (hd : decode cc pc = .ok (.i2b, 1)) : ev_Sim p l e R s m args below meth c Q nL D cl A H0 ex ad0 tyOf pc (ev_un ev_b8 (-128) 127 (pc + 1)) :=
  ev_un_gen (op := fun x => x.toInt8.toInt32) ev_b8_ok ev_b8_in (fun _ _ _ _ _ _ _ k => lv_i2b hx hb hd rfl k)
theorem ev_i2c_ok (hx : p.tables.exec = Jvm.exec) (hb : c.code = cc) (hd : decode cc pc = .ok (.i2c, 1)) : ev_Sim p l e R s m args below meth c Q nL D cl A H0 ex ad0 tyOf pc (ev_un ev_c16 0 65535 (pc + 1)) :=
  ev_un_gen (op := fun x => (x.toUInt32 % 65536).toInt32) ev_c16_ok ev_c16_in (fun _ _ _ _ _ _ _ k => lv_i2c hx hb hd rfl k)
theorem ev_i2l_ok (hx : p.tables.exec = Jvm.exec) (hb : c.code = cc) (hd : decode cc pc = .ok (.i2l, 1)) : ev_Sim p l e R s m args below meth c Q nL D cl A H0 ex ad0 tyOf pc (ev_i2l (pc + 1)) := by
  intro st pc' st' h g
  obtain ⟨stk, r⟩ := st
  match stk, h with
  | .inl (a1, a2) :: stk, h =>
    cases h
    intro H locs ls lv sv ws tys hK hP hD hS hh hl hn hL hs
    obtain ⟨w2, r2, rfl, ⟨x, rfl, hx1, hx2⟩, hs⟩ := hs
    exact lv_i2l hx hb hd rfl (g H locs ls lv (.long x.toInt64 :: r2) ws tys hK hP hD hS hh hl hn hL ⟨_, _, rfl, ⟨_, rfl, by rw [Int32.toInt_toInt64]; exact hx1, by rw [Int32.toInt_toInt64]; exact hx2⟩, hs⟩)
theorem ev_l2i_ok (hx : p.tables.exec = Jvm.exec) (hb : c.code = cc) (hd : decode cc pc = .ok (.l2i, 1)) : ev_Sim p l e R s m args below meth c Q nL D cl A H0 ex ad0 tyOf pc (ev_l2i (pc + 1)) := by
  intro st pc' st' h g
  obtain ⟨stk, r⟩ := st
  match stk, h with
  | .inr (.inl (a1, a2)) :: stk, h =>
    simp only [ev_l2i] at h
    intro H locs ls lv sv ws tys hK hP hD hS hh hl hn hL hs
    obtain ⟨w2, r2, rfl, ⟨x, rfl, hx1, hx2⟩, hs⟩ := hs
    refine lv_l2i hx hb hd rfl ?_
    by_cases q : -2147483648 ≤ a1 ∧ a2 ≤ 2147483647
    · rw [decide_eq_true q.1, decide_eq_true q.2] at h
      cases h
      have e9 : x.toInt32.toInt = x.toInt := by
        rw [Int64.toInt_toInt32]
        have h1 := q.1
        have h2 := q.2
        rw [show (2 : Nat) ^ 32 = 4294967296 from rfl, Int.bmod_def]
        split <;> omega
      exact g H locs ls lv (.int x.toInt32 :: r2) ws tys hK hP hD hS hh hl hn hL ⟨_, _, rfl, ⟨_, rfl, by rw [e9]; exact hx1, by rw [e9]; exact hx2⟩, hs⟩
    · have hq : (decide (-2147483648 ≤ a1) && decide (a2 ≤ 2147483647)) = false := by
        rw [← Bool.decide_and]
        exact decide_eq_false q
      rw [hq] at h
      cases h
      exact g H locs ls lv (.int x.toInt32 :: r2) ws tys hK hP hD hS hh hl hn hL ⟨_, _, rfl, ⟨_, rfl, ev_in _⟩, hs⟩
theorem ev_ladd_ok (hx : p.tables.exec = Jvm.exec) (hb : c.code = cc) (hd : decode cc pc = .ok (.ladd, 1)) : ev_Sim p l e R s m args below meth c Q nL D cl A H0 ex ad0 tyOf pc (ev_ladd (pc + 1)) := by
  intro st pc' st' h g
  obtain ⟨stk, r⟩ := st
  match stk, h with
  | .inr (.inl (b1, b2)) :: .inr (.inl (a1, a2)) :: stk, h =>
    simp only [ev_ladd, ev_fI_eq] at h
    by_cases q : -9223372036854775808 ≤ a1 + b1 ∧ a2 + b2 ≤ 9223372036854775807
    · rw [decide_eq_true q.1, decide_eq_true q.2] at h
      cases h
      intro H locs ls lv sv ws tys hK hP hD hS hh hl hn hL hs
      obtain ⟨w, r1, rfl, ⟨y, rfl, hy1, hy2⟩, w2, r2, rfl, ⟨x, rfl, hx1, hx2⟩, hs⟩ := hs
      have e9 : (x + y).toInt = x.toInt + y.toInt := by
        rw [Int64.toInt_add]
        have h1 := q.1
        have h2 := q.2
        rw [show (2 : Nat) ^ 64 = 18446744073709551616 from rfl, Int.bmod_def]
        split <;> omega
      exact lv_ladd hx hb hd (g H locs ls lv (.long (x + y) :: r2) ws tys hK hP hD hS hh hl hn hL ⟨_, _, rfl, ⟨_, rfl, by rw [e9]; omega, by rw [e9]; omega⟩, hs⟩)
    · have hq : (decide (-9223372036854775808 ≤ a1 + b1) && decide (a2 + b2 ≤ 9223372036854775807)) = false := by
        rw [← Bool.decide_and]
        exact decide_eq_false q
      rw [hq] at h
      cases h
theorem ev_lcmp_ok (hx : p.tables.exec = Jvm.exec) (hb : c.code = cc) (hd : decode cc pc = .ok (.lcmp, 1)) : ev_Sim p l e R s m args below meth c Q nL D cl A H0 ex ad0 tyOf pc (ev_lcmp (pc + 1)) := by
  intro st pc' st' h g
  obtain ⟨stk, r⟩ := st
  match stk, h with
  | .inr (.inl b) :: .inr (.inl a) :: stk, h =>
    simp only [ev_lcmp] at h
    have key : ∃ z : Int, pc' = pc + 1 ∧ st' = (ev_int z :: stk, r) ∧ ∀ x y : Int64, a.1 ≤ x.toInt → x.toInt ≤ a.2 → b.1 ≤ y.toInt → y.toInt ≤ b.2 → (lg_cmp x y).toInt = z := by
      split at h
      · next q =>
        cases h
        refine ⟨-1, rfl, rfl, fun x y h1 h2 h3 h4 => ?_⟩
        have h5 : x < y := Int64.lt_iff_toInt_lt.mpr (ev_lt_t q h2 h3)
        have h6 : ¬ y < x := fun z => by have := Int64.lt_iff_toInt_lt.mp z; have := Int64.lt_iff_toInt_lt.mp h5; omega
        have h7 : ¬ x = y := fun z => by rw [z] at h5; exact absurd h5 (fun w => by have := Int64.lt_iff_toInt_lt.mp w; omega)
        simp [lg_cmp, h6, h7]
      · split at h
        · next q =>
          cases h
          refine ⟨1, rfl, rfl, fun x y h1 h2 h3 h4 => ?_⟩
          have h5 : y < x := Int64.lt_iff_toInt_lt.mpr (ev_lt_t q h4 h1)
          simp [lg_cmp, h5]
        · split at h
          · next q =>
            cases h
            refine ⟨0, rfl, rfl, fun x y h1 h2 h3 h4 => ?_⟩
            have h5 : x = y := Int64.toInt_inj.mp (ev_eq_t q h1 h2 h3 h4)
            subst h5
            have h6 : ¬ x < x := fun z => by have := Int64.lt_iff_toInt_lt.mp z; omega
            simp [lg_cmp, h6]
          · cases h
    obtain ⟨z, rfl, rfl, hz⟩ := key
    intro H locs ls lv sv ws tys hK hP hD hS hh hl hn hL hs
    obtain ⟨b1, b2⟩ := b
    obtain ⟨a1, a2⟩ := a
    obtain ⟨w, r1, rfl, ⟨y, rfl, hy1, hy2⟩, w2, r2, rfl, ⟨x, rfl, hx1, hx2⟩, hs⟩ := hs
    have e9 := hz x y hx1 hx2 hy1 hy2
    exact W.lcmp hx hb hd (g H locs ls lv (.int (lg_cmp x y) :: r2) ws tys hK hP hD hS hh hl hn hL ⟨_, _, rfl, ⟨_, rfl, by rw [e9]; exact Int.le_refl _, by rw [e9]; exact Int.le_refl _⟩, hs⟩)
theorem ev_iinc_ok (hx : p.tables.exec = Jvm.exec) (hb : c.code = cc) {i : Nat} {d : Int} (hd : decode cc pc = .ok (.iinc i d, 3)) (hr : (Int32.ofInt d).toInt = d) : ev_Sim p l e R s m args below meth c Q nL D cl A H0 ex ad0 tyOf pc (ev_iinc (pc + 3) i d) := by
  intro st pc' st' h g
  obtain ⟨stk, L, r⟩ := st
  simp only [ev_iinc, ev_lg_eq, ev_fI_eq, ev_ls_eq] at h
  split at h
  · next lo hi hv =>
    by_cases q : lo = hi
    · rw [decide_eq_true q] at h
      cases hf : ev_free L i with
      | false => rw [hf] at h; cases h
      | true =>
        rw [hf] at h
        have hlt : i < L.length := (List.getElem?_eq_some_iff.mp hv).1
        simp only [Bool.and_self, cond_true, if_pos hlt] at h
        cases h
        intro H locs ls lv sv ws tys hK hP hD hS hh hl hn hL hs
        obtain ⟨w, hw, x, rfl, h1, h2⟩ := hL i _ hv
        obtain ⟨k, hk⟩ := List.getElem?_of_mem hw
        have e9 : (x + Int32.ofInt d).toInt = ev_wr32 (lo + d) := by
          rw [Int32.toInt_add, hr, show x.toInt = lo by omega]
          rfl
        refine lv_iinc hx hb hd hl hk rfl (by rw [← hn]; exact hlt) rfl (fun ls' hl' => ?_)
        exact g H locs ls' _ sv ws tys hK hP hD hS hh hl' (by rw [List.length_set]; exact hn) (ev_lR_set hL hf ⟨_, rfl, by rw [e9]; exact Int.le_refl _, by rw [e9]; exact Int.le_refl _⟩) hs
    · rw [decide_eq_false q] at h
      cases h
  · cases h
end EvB
end
section
/-! CELLS: fields, new objects, arrays of ints, longs and references. -/
theorem ev_vR_mono {ad ad' : List Nat} {ex : Nat → Value} (hm : ∀ k a : Nat, ad[k]? = some a → ad'[k]? = some a) {v : ev_V} {w : Value} (h : ev_vR ad ex v w) : ev_vR ad' ex v w := by
  match v, h with
  | .inl (lo, hi), h => exact h
  | .inr (.inl (lo, hi)), h => exact h
  | .inr (.inr none), h => exact h
  | .inr (.inr (some (.inl k))), ⟨a, h1, h2⟩ => exact ⟨a, hm k a h1, h2⟩
  | .inr (.inr (some (.inr j))), h => exact h
theorem ev_lR_mono {ad ad' : List Nat} {ex : Nat → Value} (hm : ∀ k a : Nat, ad[k]? = some a → ad'[k]? = some a) {L : List (Option ev_V)} {lv : List (Nat × Value)} (h : ev_lR ad ex L lv) : ev_lR ad' ex L lv := by
  intro i v hi
  obtain ⟨w, h1, h2⟩ := h i v hi
  exact ⟨w, h1, ev_vR_mono hm h2⟩
theorem ev_kR_mono {ad ad' : List Nat} {ex : Nat → Value} (hm : ∀ k a : Nat, ad[k]? = some a → ad'[k]? = some a) : ∀ {l : List ev_V} {sv : List Value}, ev_kR ad ex l sv → ev_kR ad' ex l sv
  | [], _, h => h
  | _ :: _, _, ⟨w, r, h1, h2, h3⟩ => ⟨w, r, h1, ev_vR_mono hm h2, ev_kR_mono hm h3⟩
theorem ev_aR_mono {ad ad' : List Nat} {ex : Nat → Value} (hm : ∀ k a : Nat, ad[k]? = some a → ad'[k]? = some a) {els : List ev_V} {kd : Nat} {x : (Nat → Int32) ⊕ (Nat → Int64) ⊕ (Nat → UInt32) ⊕ (Nat → UInt64) ⊕ (Nat → Option Nat)} (h : ev_aR ad ex els kd x) : ev_aR ad' ex els kd x := by
  match kd, h with
  | 0, ⟨f, h1, h2⟩ => exact ⟨f, h1, fun j v hj => ev_vR_mono hm (h2 j v hj)⟩
  | 1, ⟨f, h1, h2⟩ => exact ⟨f, h1, fun j v hj => ev_vR_mono hm (h2 j v hj)⟩
  | 2, ⟨f, h1, h2⟩ => exact ⟨f, h1, fun j v hj => ev_vR_mono hm (h2 j v hj)⟩
theorem ev_cR_mono {tyOf : Nat → FieldType} {tys tys' : List (ClassId × FieldType)} {ad ad' : List Nat} {ex : Nat → Value} (ht : ∀ (k : Nat) (q : ClassId × FieldType), tys[k]? = some q → tys'[k]? = some q) (hm : ∀ k a : Nat, ad[k]? = some a → ad'[k]? = some a) {q : ev_C} {e : va_E} (h : ev_cR tyOf tys ad ex q e) : ev_cR tyOf tys' ad' ex q e := by
  match q, h with
  | .inl (ci, fs), ⟨vs, h1, h2, h3⟩ =>
    refine ⟨vs, h1, h2, fun k v hk => ?_⟩
    obtain ⟨w, h4, h5⟩ := h3 k v hk
    exact ⟨w, h4, ev_vR_mono hm h5⟩
  | .inr (tc, n, els), ⟨cA, x, h1, h2, h3, ⟨t0, h4⟩, h5⟩ => exact ⟨cA, x, h1, h2, h3, ⟨t0, ht _ _ h4⟩, ev_aR_mono hm h5⟩
theorem ev_fst_set {ws : va_W} {k a : Nat} {e e' : va_E} (h : ws[k]? = some (a, e)) : (ws.set k (a, e')).map Prod.fst = ws.map Prod.fst := by
  apply List.ext_getElem?
  intro i
  rw [List.getElem?_map, List.getElem?_map]
  by_cases hi : k = i
  · subst hi
    rw [List.getElem?_set_self (List.getElem?_eq_some_iff.mp h).1, h]
    rfl
  · rw [List.getElem?_set_ne hi]
theorem ev_fst_push {ws : va_W} {a : Nat} {e : va_E} : ∀ k b : Nat, (ws.map Prod.fst)[k]? = some b → ((ws ++ [(a, e)]).map Prod.fst)[k]? = some b := by
  intro k b h
  rw [List.map_append, List.getElem?_append_left (List.getElem?_eq_some_iff.mp h).1]
  exact h
theorem ev_app {α : Type} {l : List α} {x : α} : ∀ (k : Nat) (q : α), l[k]? = some q → (l ++ [x])[k]? = some q := by
  intro k q h
  rw [List.getElem?_append_left (List.getElem?_eq_some_iff.mp h).1]
  exact h
theorem ev_hR_set {ad0 : List Nat} {tyOf : Nat → FieldType} {tys : List (ClassId × FieldType)} {ex : Nat → Value} {h : ev_Hp} {ws : va_W} {k a : Nat} {e e' : va_E} {q' : ev_C} (hh : ev_hR ad0 tyOf tys ex h ws) (hw : ws[k]? = some (a, e)) (hr : ev_cR tyOf tys (ws.map Prod.fst) ex q' e') : ev_hR ad0 tyOf tys ex (h.1, ev_tS 10 h.2 k (some q')) (ws.set k (a, e')) := by
  obtain ⟨h1, h2, h0, h3⟩ := hh
  have hlt : k < ws.length := (List.getElem?_eq_some_iff.mp hw).1
  have hk : k < 1024 := by omega
  refine ⟨by rw [List.length_set]; exact h1, h2, by rw [ev_fst_set hw]; exact h0, fun j hj q hq => ?_⟩
  rw [ev_fst_set hw]
  dsimp only at hq
  rw [ev_tg_S] at hq
  by_cases hjk : j = k
  · subst hjk
    rw [if_pos rfl] at hq
    cases hq
    exact ⟨a, e', List.getElem?_set_self hlt, hr⟩
  · have hne : ¬ j % 2 ^ 10 = k % 2 ^ 10 := by
      rw [show (2 : Nat) ^ 10 = 1024 from rfl, Nat.mod_eq_of_lt hj, Nat.mod_eq_of_lt hk]
      exact hjk
    rw [if_neg hne] at hq
    obtain ⟨b, e2, h4, h5⟩ := h3 j hj q hq
    exact ⟨b, e2, by rw [List.getElem?_set_ne (fun z => hjk z.symm)]; exact h4, h5⟩
theorem ev_hR_push {ad0 : List Nat} {tyOf : Nat → FieldType} {tys tys' : List (ClassId × FieldType)} {ex : Nat → Value} {h : ev_Hp} {ws : va_W} {a : Nat} {e : va_E} {q' : ev_C} (hh : ev_hR ad0 tyOf tys ex h ws) (hlt : h.1 < 1024) (ht : ∀ (k : Nat) (q : ClassId × FieldType), tys[k]? = some q → tys'[k]? = some q) (hr : ev_cR tyOf tys' ((ws ++ [(a, e)]).map Prod.fst) ex q' e) : ev_hR ad0 tyOf tys' ex (h.1 + 1, ev_tS 10 h.2 h.1 (some q')) (ws ++ [(a, e)]) := by
  obtain ⟨h1, h2, h0, h3⟩ := hh
  refine ⟨by rw [List.length_append, h1]; rfl, hlt, fun i b hb => ev_fst_push i b (h0 i b hb), fun j hj q hq => ?_⟩
  dsimp only at hq
  rw [ev_tg_S] at hq
  by_cases hjk : j = h.1
  · subst hjk
    rw [if_pos rfl] at hq
    cases hq
    exact ⟨a, e, by rw [← h1, List.getElem?_append_right (Nat.le_refl _), Nat.sub_self]; rfl, hr⟩
  · have hne : ¬ j % 2 ^ 10 = h.1 % 2 ^ 10 := by
      rw [show (2 : Nat) ^ 10 = 1024 from rfl, Nat.mod_eq_of_lt hj, Nat.mod_eq_of_lt hlt]
      exact hjk
    rw [if_neg hne] at hq
    obtain ⟨b, e2, h4, h5⟩ := h3 j hj q hq
    exact ⟨b, e2, ev_app _ _ h4, ev_cR_mono ht ev_fst_push h5⟩
/-- a place of the world -/
theorem ev_place {ws : va_W} {k : Nat} {ex : Nat → Value} {w : Value} (h : ev_vR (ws.map Prod.fst) ex (.inr (.inr (some (.inl k)))) w) : ∃ a e, ws[k]? = some (a, e) ∧ w = .ref a := by
  obtain ⟨a, h1, h2⟩ := h
  rw [List.getElem?_map] at h1
  cases hk : ws[k]? with
  | none => rw [hk] at h1; cases h1
  | some q =>
    rw [hk] at h1
    obtain ⟨b, e⟩ := q
    cases h1
    exact ⟨b, e, rfl, h2⟩
/-- what a known cell at a place is -/
theorem ev_cell {ad0 : List Nat} {tyOf : Nat → FieldType} {tys : List (ClassId × FieldType)} {ex : Nat → Value} {h : ev_Hp} {ws : va_W} {k a : Nat} {e : va_E} {q : ev_C} (hh : ev_hR ad0 tyOf tys ex h ws) (hw : ws[k]? = some (a, e)) (hq : ev_tg 10 h.2 k = some q) : ev_cR tyOf tys (ws.map Prod.fst) ex q e := by
  obtain ⟨h1, h2, h0, h3⟩ := hh
  have hlt : k < ws.length := (List.getElem?_eq_some_iff.mp hw).1
  obtain ⟨b, e2, h4, h5⟩ := h3 k (by omega) q hq
  rw [hw] at h4
  cases h4
  exact h5
def ev_get (n ci j : Nat) : ev_I := fun st => match st with
  | (.inr (.inr (some (.inl k))) :: stk, L, h, r) => match ev_tg 10 h.2 k with
    | some (.inl (ci', fs)) => match ev_lg fs j with
      | some v => cond (Nat.beq ci' ci) (some (n, (v :: stk, L, h, r))) none
      | none => none
    | _ => none
  | _ => none
/-- which values a field takes: 0 an int, 1 a boolean, 4 a long, 5 a reference -/
def ev_fit (tk : Nat) (v : ev_V) : Bool := match tk, v with
  | 0, .inl _ => true
  | 1, .inl (lo, hi) => decide (0 ≤ lo) && decide (hi ≤ 1)
  | 4, .inr (.inl _) => true
  | 5, .inr (.inr _) => true
  | _, _ => false
def ev_tk (ty : FieldType) : Nat := match ty with
  | .int => 0
  | .boolean => 1
  | .long => 4
  | .object _ => 5
  | .array _ => 5
  | _ => 9
theorem ev_fit_ok {ad : List Nat} {ex : Nat → Value} {ty : FieldType} {v : ev_V} {w : Value} (hf : ev_fit (ev_tk ty) v = true) (h : ev_vR ad ex v w) : narrow ty w = w ∧ fits ty w = true := by
  match ty, v, hf, h with
  | .int, .inl (lo, hi), _, ⟨x, h, _⟩ => rw [h]; exact ⟨rfl, rfl⟩
  | .boolean, .inl (lo, hi), hf, ⟨x, h, h1, h2⟩ =>
    have hf2 : (decide (0 ≤ lo) && decide (hi ≤ 1)) = true := hf
    rw [Bool.and_eq_true, decide_eq_true_eq, decide_eq_true_eq] at hf2
    have h3 : x = 0 ∨ x = 1 := by
      by_cases q : x.toInt = 0
      · exact Or.inl (Int32.toInt_inj.mp q)
      · exact Or.inr (Int32.toInt_inj.mp (show x.toInt = 1 by omega))
    rw [h]
    rcases h3 with rfl | rfl
    · exact ⟨by decide, by decide⟩
    · exact ⟨by decide, by decide⟩
  | .long, .inr (.inl (lo, hi)), _, ⟨x, h, _⟩ => rw [h]; exact ⟨rfl, rfl⟩
  | .object C, .inr (.inr u), _, h =>
    rcases ev_rf h with ⟨rfl, -⟩ | ⟨a, rfl, -⟩
    · exact ⟨rfl, rfl⟩
    · exact ⟨rfl, rfl⟩
  | .array t, .inr (.inr u), _, h =>
    rcases ev_rf h with ⟨rfl, -⟩ | ⟨a, rfl, -⟩
    · exact ⟨rfl, rfl⟩
    · exact ⟨rfl, rfl⟩
def ev_put (n ci j tk : Nat) : ev_I := fun st => match st with
  | (v :: .inr (.inr (some (.inl k))) :: stk, L, h, r) => match ev_tg 10 h.2 k with
    | some (.inl (ci', fs)) => cond (Nat.beq ci' ci && ev_fit tk v) (ev_ls fs j v (fun fs' => ev_ts 10 h.2 k (some (.inl (ci', fs'))) (fun t' => some (n, (stk, L, (h.1, t'), r)))) none) none
    | _ => none
  | _ => none
/-- a new object, its fields as fs has them; no more than cm cells of sm slots in this frame -/
def ev_new (n ci N cm sm : Nat) (fs : List ev_V) : ev_I := fun st => match st with
  | (stk, L, (sz, t), (c1, n1)) => cond (Nat.blt sz 1024 && (Nat.ble (c1 + 1) cm && Nat.ble (n1 + N) sm)) (ev_ts 10 t sz (some (.inl (ci, fs))) (fun t' => ev_fN (sz + 1) (fun sz' => ev_fN (c1 + 1) (fun c' => ev_fN (n1 + N) (fun n' => some (n, (ev_ref sz :: stk, L, (sz', t'), (c', n')))))))) none
theorem ev_get_i {st st' : ev_S} {n ci j pc' : Nat} (h : ev_get n ci j st = some (pc', st')) : ∃ k stk fs v, st.1 = .inr (.inr (some (.inl k))) :: stk ∧ ev_tg 10 st.2.2.1.2 k = some (.inl (ci, fs)) ∧ fs[j]? = some v ∧ pc' = n ∧ st' = (v :: stk, st.2) := by
  obtain ⟨stk, L, hp, r⟩ := st
  match stk, h with
  | .inr (.inr (some (.inl k))) :: stk, h =>
    simp only [ev_get, ev_lg_eq] at h
    split at h
    · next ci' fs hq =>
      split at h
      · next v hv =>
        obtain ⟨hc, h2⟩ := ev_bt1 h
        have e1 : ci' = ci := Nat.eq_of_beq_eq_true hc
        subst e1
        cases h2
        exact ⟨k, stk, fs, v, rfl, hq, hv, rfl, rfl⟩
      · cases h
    · cases h
theorem ev_put_i {st st' : ev_S} {n ci j tk pc' : Nat} (h : ev_put n ci j tk st = some (pc', st')) : ∃ v k stk fs, st.1 = v :: .inr (.inr (some (.inl k))) :: stk ∧ ev_tg 10 st.2.2.1.2 k = some (.inl (ci, fs)) ∧ ev_fit tk v = true ∧ j < fs.length ∧ pc' = n ∧ st' = (stk, st.2.1, (st.2.2.1.1, ev_tS 10 st.2.2.1.2 k (some (.inl (ci, fs.set j v)))), st.2.2.2) := by
  obtain ⟨stk, L, hp, r⟩ := st
  match stk, h with
  | v :: .inr (.inr (some (.inl k))) :: stk, h =>
    simp only [ev_put] at h
    split at h
    · next ci' fs hq =>
      cases hc : Nat.beq ci' ci with
      | false => rw [hc] at h; cases h
      | true =>
        have e1 : ci' = ci := Nat.eq_of_beq_eq_true hc
        subst e1
        cases hf : ev_fit tk v with
        | false => rw [hc, hf] at h; cases h
        | true =>
          rw [hc, hf] at h
          simp only [Bool.and_self, cond_true, ev_ls_eq, ev_ts_eq] at h
          by_cases hj : j < fs.length
          · rw [if_pos hj] at h
            cases h
            exact ⟨v, k, stk, fs, rfl, hq, hf, hj, rfl, rfl⟩
          · rw [if_neg hj] at h
            cases h
    · cases h
theorem ev_new_i {st st' : ev_S} {n ci N cm sm pc' : Nat} {fs : List ev_V} (h : ev_new n ci N cm sm fs st = some (pc', st')) : st.2.2.1.1 < 1024 ∧ st.2.2.2.1 + 1 ≤ cm ∧ st.2.2.2.2 + N ≤ sm ∧ pc' = n ∧ st' = (ev_ref st.2.2.1.1 :: st.1, st.2.1, (st.2.2.1.1 + 1, ev_tS 10 st.2.2.1.2 st.2.2.1.1 (some (.inl (ci, fs)))), (st.2.2.2.1 + 1, st.2.2.2.2 + N)) := by
  obtain ⟨stk, L, ⟨sz, t⟩, c1, n1⟩ := st
  simp only [ev_new, ev_ts_eq, ev_fN_eq] at h
  cases h1 : Nat.blt sz 1024 with
  | false => rw [h1] at h; cases h
  | true =>
    cases h2 : Nat.ble (c1 + 1) cm with
    | false => rw [h1, h2] at h; cases h
    | true =>
      cases h3 : Nat.ble (n1 + N) sm with
      | false => rw [h1, h2, h3] at h; cases h
      | true =>
        rw [h1, h2, h3] at h
        cases h
        exact ⟨Nat.le_of_ble_eq_true h1, Nat.le_of_ble_eq_true h2, Nat.le_of_ble_eq_true h3, rfl, rfl⟩
section EvC
variable {p : Program} {l : Launch} {e : Env} {R : Room} {s : State} {m : MethodId} {args : Array Value} {below : List Frame} {meth : Method} {c : Code} {Q : State → Prop} {nL : Nat} {D : va_G} {cl : List vw_C} {A : Nat → Prop} {H0 : Heap} {ex : Nat → Value} {ad0 : List Nat} {tyOf : Nat → FieldType}
variable {cc : ByteArray} {pc : Nat}
theorem ev_get_ok (hx : p.tables.exec = Jvm.exec) (hb : c.code = cc) {own ref C : String} {T : u_T} {N ci index j : Nat} {Ts : List Cond} (hts : ∀ w ∈ Ts, w.before args s = true) (hin : ∀ w ∈ u_ws C T N, w ∈ Ts) (ho : s.vm.findClass own = some m.cls) (hc : cl[ci]? = some (C, T, N)) (hj : j < N) (hlink : (Cond.fieldLink own index ref (T j).2.1 (T j).2.2.1).before args s = true) (hsame : ∀ x, s.fieldFound? (T j).1 (T j).2.1 (T j).2.2.1 = some x → s.fieldFound? ref (T j).2.1 (T j).2.2.1 = some x) (hd : decode cc pc = .ok (.getfield index, 3)) : ev_Sim p l e R s m args below meth c Q nL D cl A H0 ex ad0 tyOf pc (ev_get (pc + 3) ci j) := by
  intro st pc' st' h g
  obtain ⟨k, stk, fs, v, e1, hq, hv, rfl, rfl⟩ := ev_get_i h
  intro H locs ls lv sv ws tys hK hP hD hS hh hl hn hL hs
  rw [e1] at hs
  obtain ⟨w, r, rfl, hw, hr⟩ := hs
  obtain ⟨a, e2, hwk, rfl⟩ := ev_place hw
  obtain ⟨vs, rfl, hlen, hf⟩ := ev_cell hh hwk hq
  obtain ⟨u, hu, hur⟩ := hf j v hv
  exact va_get hx hb hts hin ho hK hP k hwk hc j hj hlink hsame hu hd (g H locs ls lv (u :: r) ws tys hK hP hD hS hh hl hn hL ⟨_, _, rfl, hur, hr⟩)
theorem ev_getN_ok (hx : p.tables.exec = Jvm.exec) (hb : c.code = cc) {own ref C host : String} {T : u_T} {N ci index j : Nat} {Ts : List Cond} (hts : ∀ w ∈ Ts, w.before args s = true) (hin : ∀ w ∈ u_ws C T N, w ∈ Ts) (ho : s.vm.findClass own = some m.cls) (hc : cl[ci]? = some (C, T, N)) (hj : j < N) (hlink : (Cond.fieldLinkNest own index ref (T j).2.1 (T j).2.2.1 host).before args s = true) (hsame : ∀ x, s.fieldFound? (T j).1 (T j).2.1 (T j).2.2.1 = some x → s.fieldFound? ref (T j).2.1 (T j).2.2.1 = some x) (hd : decode cc pc = .ok (.getfield index, 3)) : ev_Sim p l e R s m args below meth c Q nL D cl A H0 ex ad0 tyOf pc (ev_get (pc + 3) ci j) := by
  intro st pc' st' h g
  obtain ⟨k, stk, fs, v, e1, hq, hv, rfl, rfl⟩ := ev_get_i h
  intro H locs ls lv sv ws tys hK hP hD hS hh hl hn hL hs
  rw [e1] at hs
  obtain ⟨w, r, rfl, hw, hr⟩ := hs
  obtain ⟨a, e2, hwk, rfl⟩ := ev_place hw
  obtain ⟨vs, rfl, hlen, hf⟩ := ev_cell hh hwk hq
  obtain ⟨u, hu, hur⟩ := hf j v hv
  exact va_getN hx hb hts hin ho hK hP k hwk hc j hj hlink hsame hu hd (g H locs ls lv (u :: r) ws tys hK hP hD hS hh hl hn hL ⟨_, _, rfl, hur, hr⟩)
/-- the world behind a field's new value -/
theorem ev_put_h {tys : List (ClassId × FieldType)} {h : ev_Hp} {ws : va_W} {k a ci j : Nat} {fs : List ev_V} {vs : List Value} {v : ev_V} {w : Value} (hh : ev_hR ad0 tyOf tys ex h ws) (hwk : ws[k]? = some (a, .inr (ci, vs))) (hlen : vs.length = fs.length) (hf : ∀ (k : Nat) (v : ev_V), fs[k]? = some v → ∃ w, vs[k]? = some w ∧ ev_vR (ws.map Prod.fst) ex v w) (hj : j < fs.length) (hv : ev_vR (ws.map Prod.fst) ex v w) : ev_hR ad0 tyOf tys ex (h.1, ev_tS 10 h.2 k (some (.inl (ci, fs.set j v)))) (ws.set k (a, .inr (ci, vs.set j w))) := by
  refine ev_hR_set hh hwk ⟨vs.set j w, rfl, by rw [List.length_set, List.length_set]; exact hlen, fun i u hi => ?_⟩
  by_cases hij : j = i
  · subst hij
    rw [List.getElem?_set_self hj] at hi
    cases hi
    exact ⟨w, List.getElem?_set_self (by rw [hlen]; exact hj), hv⟩
  · rw [List.getElem?_set_ne hij] at hi
    obtain ⟨x, h1, h2⟩ := hf i u hi
    exact ⟨x, by rw [List.getElem?_set_ne hij]; exact h1, h2⟩
theorem ev_put_ok (hx : p.tables.exec = Jvm.exec) (hb : c.code = cc) {own ref C : String} {T : u_T} {N ci index j tk : Nat} {Ts : List Cond} (hts : ∀ w ∈ Ts, w.before args s = true) (hin : ∀ w ∈ u_ws C T N, w ∈ Ts) (ty0 : Nat → FieldType) (hty : ∀ k, k < N → parseFieldDescriptor (T k).2.2.1 = some (ty0 k)) (hnm : ∀ a, a < N → ∀ b, b < N → a ≠ b → (T a).2.1 ≠ (T b).2.1) (ho : s.vm.findClass own = some m.cls) (hc : cl[ci]? = some (C, T, N)) (hj : j < N) (hlink : (Cond.fieldLink own index ref (T j).2.1 (T j).2.2.1).before args s = true) (hsame : ∀ x, s.fieldFound? (T j).1 (T j).2.1 (T j).2.2.1 = some x → s.fieldFound? ref (T j).2.1 (T j).2.2.1 = some x) (hfin : (T j).2.2.2 = false) (htk : ev_tk (ty0 j) = tk) (hd : decode cc pc = .ok (.putfield index, 3)) : ev_Sim p l e R s m args below meth c Q nL D cl A H0 ex ad0 tyOf pc (ev_put (pc + 3) ci j tk) := by
  intro st pc' st' h g
  obtain ⟨v, k, stk, fs, e1, hq, hfit, hjl, rfl, rfl⟩ := ev_put_i h
  intro H locs ls lv sv ws tys hK hP hD hS hh hl hn hL hs
  rw [e1] at hs
  obtain ⟨w, r, rfl, hw, w2, r2, rfl, hw2, hr⟩ := hs
  obtain ⟨a, e2, hwk, rfl⟩ := ev_place hw2
  obtain ⟨vs, rfl, hlen, hf⟩ := ev_cell hh hwk hq
  subst htk
  obtain ⟨f1, f2⟩ := ev_fit_ok hfit hw
  refine va_put hx hb hts hin ty0 hty hnm ho hK hP hD hS k hwk hc j hj hlink hsame hfin (hty j hj) f1 f2 (by rw [hlen]; exact hjl) hd (fun H1 locs1 hP1 hD1 hS1 => ?_)
  have ea := ev_fst_set (e' := .inr (ci, vs.set j w)) hwk
  exact g H1 locs1 ls lv r2 _ tys hK hP1 hD1 hS1 (ev_put_h hh hwk hlen hf hjl hw) hl hn (by rw [ea]; exact hL) (by rw [ea]; exact hr)
theorem ev_putN_ok (hx : p.tables.exec = Jvm.exec) (hb : c.code = cc) {own ref C host : String} {T : u_T} {N ci index j tk : Nat} {Ts : List Cond} (hts : ∀ w ∈ Ts, w.before args s = true) (hin : ∀ w ∈ u_ws C T N, w ∈ Ts) (ty0 : Nat → FieldType) (hty : ∀ k, k < N → parseFieldDescriptor (T k).2.2.1 = some (ty0 k)) (hnm : ∀ a, a < N → ∀ b, b < N → a ≠ b → (T a).2.1 ≠ (T b).2.1) (ho : s.vm.findClass own = some m.cls) (hc : cl[ci]? = some (C, T, N)) (hj : j < N) (hlink : (Cond.fieldLinkNest own index ref (T j).2.1 (T j).2.2.1 host).before args s = true) (hsame : ∀ x, s.fieldFound? (T j).1 (T j).2.1 (T j).2.2.1 = some x → s.fieldFound? ref (T j).2.1 (T j).2.2.1 = some x) (hfin : (T j).2.2.2 = false) (htk : ev_tk (ty0 j) = tk) (hd : decode cc pc = .ok (.putfield index, 3)) : ev_Sim p l e R s m args below meth c Q nL D cl A H0 ex ad0 tyOf pc (ev_put (pc + 3) ci j tk) := by
  intro st pc' st' h g
  obtain ⟨v, k, stk, fs, e1, hq, hfit, hjl, rfl, rfl⟩ := ev_put_i h
  intro H locs ls lv sv ws tys hK hP hD hS hh hl hn hL hs
  rw [e1] at hs
  obtain ⟨w, r, rfl, hw, w2, r2, rfl, hw2, hr⟩ := hs
  obtain ⟨a, e2, hwk, rfl⟩ := ev_place hw2
  obtain ⟨vs, rfl, hlen, hf⟩ := ev_cell hh hwk hq
  subst htk
  obtain ⟨f1, f2⟩ := ev_fit_ok hfit hw
  refine va_putN hx hb hts hin ty0 hty hnm ho hK hP hD hS k hwk hc j hj hlink hsame hfin (hty j hj) f1 f2 (by rw [hlen]; exact hjl) hd (fun H1 locs1 hP1 hD1 hS1 => ?_)
  have ea := ev_fst_set (e' := .inr (ci, vs.set j w)) hwk
  exact g H1 locs1 ls lv r2 _ tys hK hP1 hD1 hS1 (ev_put_h hh hwk hlen hf hjl hw) hl hn (by rw [ea]; exact hL) (by rw [ea]; exact hr)
theorem ev_putF_ok (hx : p.tables.exec = Jvm.exec) (hb : c.code = cc) {own ref C : String} {T : u_T} {N ci index j tk : Nat} {Ts : List Cond} (hts : ∀ w ∈ Ts, w.before args s = true) (hin : ∀ w ∈ u_ws C T N, w ∈ Ts) (ty0 : Nat → FieldType) (hty : ∀ k, k < N → parseFieldDescriptor (T k).2.2.1 = some (ty0 k)) (hnm : ∀ a, a < N → ∀ b, b < N → a ≠ b → (T a).2.1 ≠ (T b).2.1) (ho : s.vm.findClass own = some m.cls) (hc : cl[ci]? = some (C, T, N)) (hj : j < N) (hlink : (Cond.fieldLink own index ref (T j).2.1 (T j).2.2.1).before args s = true) (hsame : ∀ x, s.fieldFound? (T j).1 (T j).2.1 (T j).2.2.1 = some x → s.fieldFound? ref (T j).2.1 (T j).2.2.1 = some x) (hfin : (T j).2.2.2 = true) (hini : meth.name = "<init>") (hdecl : (T j).1 = own) (htk : ev_tk (ty0 j) = tk) (hd : decode cc pc = .ok (.putfield index, 3)) : ev_Sim p l e R s m args below meth c Q nL D cl A H0 ex ad0 tyOf pc (ev_put (pc + 3) ci j tk) := by
  intro st pc' st' h g
  obtain ⟨v, k, stk, fs, e1, hq, hfit, hjl, rfl, rfl⟩ := ev_put_i h
  intro H locs ls lv sv ws tys hK hP hD hS hh hl hn hL hs
  rw [e1] at hs
  obtain ⟨w, r, rfl, hw, w2, r2, rfl, hw2, hr⟩ := hs
  obtain ⟨a, e2, hwk, rfl⟩ := ev_place hw2
  obtain ⟨vs, rfl, hlen, hf⟩ := ev_cell hh hwk hq
  subst htk
  obtain ⟨f1, f2⟩ := ev_fit_ok hfit hw
  refine va_putF hx hb hts hin ty0 hty hnm ho hK hP hD hS k hwk hc j hj hlink hsame hfin hini hdecl (hty j hj) f1 f2 (by rw [hlen]; exact hjl) hd (fun H1 locs1 hP1 hD1 hS1 => ?_)
  have ea := ev_fst_set (e' := .inr (ci, vs.set j w)) hwk
  exact g H1 locs1 ls lv r2 _ tys hK hP1 hD1 hS1 (ev_put_h hh hwk hlen hf hjl hw) hl hn (by rw [ea]; exact hL) (by rw [ea]; exact hr)
/-- a new object's fields, as values -/
def ev_dv (ty : FieldType) : ev_V := match ev_tk ty with
  | 4 => .inr (.inl (0, 0))
  | 5 => ev_null
  | _ => ev_int 0
theorem ev_dv_ok {ad : List Nat} {ex : Nat → Value} {ty : FieldType} (h : ev_tk ty < 9) : ev_vR ad ex (ev_dv ty) (defaultValue ty) := by
  match ty, h with
  | .int, _ => exact ⟨0, rfl, Int.le_refl _, Int.le_refl _⟩
  | .boolean, _ => exact ⟨0, rfl, Int.le_refl _, Int.le_refl _⟩
  | .long, _ => exact ⟨0, rfl, Int.le_refl _, Int.le_refl _⟩
  | .object C, _ => exact rfl
  | .array t, _ => exact rfl
theorem ev_new_ok (hx : p.tables.exec = Jvm.exec) (hb : c.code = cc) {own C : String} {T : u_T} {N ci index cm sm : Nat} {Ts : List Cond} (hts : ∀ w ∈ Ts, w.before args s = true) (hin : ∀ w ∈ u_ws C T N, w ∈ Ts) (ty0 : Nat → FieldType) (hty : ∀ k, k < N → parseFieldDescriptor (T k).2.2.1 = some (ty0 k)) (ho : s.vm.findClass own = some m.cls) (hcl : (Cond.classLink own index C).before args s = true) (hinst : (Cond.instantiable C N).before args s = true) (hini : (Cond.initialized C).before args s = true) (hA : ∀ q, H0.size ≤ q → A q) (hc : cl[ci]? = some (C, T, N)) (h9 : ∀ k, k < N → ev_tk (ty0 k) < 9) (hcm : cm ≤ R.cells) (hsm : sm ≤ R.slots) (hd : decode cc pc = .ok (.new index, 3)) : ev_Sim p l e R s m args below meth c Q nL D cl A H0 ex ad0 tyOf pc (ev_new (pc + 3) ci N cm sm ((List.range N).map (fun k => ev_dv (ty0 k)))) := by
  intro st pc' st' h g
  obtain ⟨h1, h2, h3, rfl, rfl⟩ := ev_new_i h
  intro H locs ls lv sv ws tys hK hP hD hS hh hl hn hL hs
  have hfs : ∀ j, j < N → defaultValue (ty0 j) = vp_V ((List.range N).map (fun k => defaultValue (ty0 k))) j := by
    intro j hj
    simp [vp_V, List.getD_eq_getElem?_getD, hj]
  refine va_new hx hb hts hin ty0 hty ho hcl hinst hini hK hP hD hS hA hc hfs (Nat.le_trans h2 hcm) (Nat.le_trans h3 hsm) hd (fun q H1 hP1 hD1 hS1 => ?_)
  refine g H1 locs ls lv (.ref q :: sv) _ tys hK hP1 hD1 hS1 (ev_hR_push hh h1 (fun _ _ z => z) ⟨_, rfl, by simp, fun k v hk => ?_⟩) hl hn (ev_lR_mono ev_fst_push hL) ⟨_, _, rfl, ⟨q, ?_, rfl⟩, ev_kR_mono ev_fst_push hs⟩
  · rw [List.getElem?_map] at hk ⊢
    cases hkr : (List.range N)[k]? with
    | none => rw [hkr] at hk; cases hk
    | some i =>
      rw [hkr] at hk
      cases hk
      have hi : i < N := List.mem_range.mp (List.mem_of_getElem? hkr)
      exact ⟨_, rfl, ev_dv_ok (h9 i hi)⟩
  · rw [List.map_append, ← hh.1, List.getElem?_append_right (by rw [List.length_map]; exact Nat.le_refl _), List.length_map, Nat.sub_self]
    rfl
end EvC
end
section
/-! ARRAYS. -/
/-- what a new array holds: by ev_kd of its elements' type -/
def ev_ad (kd : Nat) : ev_V := match kd with
  | 0 => ev_int 0
  | 1 => .inr (.inl (0, 0))
  | _ => ev_null
def ev_newa (n tc kd cm sm : Nat) : ev_I := fun st => match st with
  | (.inl (.ofNat k1, k2) :: stk, L, (sz, t), (c1, n1)) => cond (decide (Int.ofNat k1 = k2) && (Nat.blt k1 65536 && (Nat.blt sz 1024 && (Nat.ble (c1 + 1) cm && Nat.ble (n1 + k1) sm)))) (ev_fN k1 (fun N => ev_ts 10 t sz (some (.inr (tc, N, List.replicate N (ev_ad kd)))) (fun t' => ev_fN (sz + 1) (fun sz' => ev_fN (c1 + 1) (fun c' => ev_fN (n1 + k1) (fun n' => some (n, (ev_ref sz :: stk, L, (sz', t'), (c', n')))))))) ) none
  | _ => none
def ev_alen (n : Nat) : ev_I := fun st => match st with
  | (.inr (.inr (some (.inl k))) :: stk, L, h, r) => match ev_tg 10 h.2 k with
    | some (.inr (_, len, _)) => some (n, (.inl (.ofNat len, .ofNat len) :: stk, L, h, r))
    | _ => none
  | _ => none
def ev_ald (n tc : Nat) : ev_I := fun st => match st with
  | (.inl (.ofNat i1, i2) :: .inr (.inr (some (.inl k))) :: stk, L, h, r) => match ev_tg 10 h.2 k with
    | some (.inr (tc', _, els)) => match ev_lg els i1 with
      | some v => cond (decide (Int.ofNat i1 = i2) && Nat.beq tc' tc) (some (n, (v :: stk, L, h, r))) none
      | none => none
    | _ => none
  | _ => none
/-- how a value lies in an array: 0 int, 2 byte, 3 char, 4 long -/
def ev_nar {β : Type} (tk : Nat) (v : ev_V) (κ : ev_V → Option β) : Option β := match tk, v with
  | 0, .inl x => κ (.inl x)
  | 2, .inl (a1, a2) => cond (decide (a1 = a2)) (ev_fI (ev_b8 a1) (fun z => κ (.inl (z, z)))) (κ (.inl (-128, 127)))
  | 3, .inl (a1, a2) => cond (decide (a1 = a2)) (ev_fI (ev_c16 a1) (fun z => κ (.inl (z, z)))) (κ (.inl (0, 65535)))
  | 4, .inr (.inl x) => κ (.inr (.inl x))
  | _, _ => none
def ev_ast (n tc tk : Nat) : ev_I := fun st => match st with
  | (v :: .inl (.ofNat i1, i2) :: .inr (.inr (some (.inl k))) :: stk, L, h, r) => match ev_tg 10 h.2 k with
    | some (.inr (tc', len, els)) => cond (decide (Int.ofNat i1 = i2) && Nat.beq tc' tc) (ev_nar tk v (fun v' => ev_ls els i1 v' (fun els' => ev_ts 10 h.2 k (some (.inr (tc', len, els'))) (fun t' => some (n, (stk, L, (h.1, t'), r)))) none)) none
    | _ => none
  | _ => none
/-- a reference of the class ci, or null, to an array of such -/
def ev_astq (n tc ci : Nat) : ev_I := fun st => match st with
  | (.inr (.inr v) :: .inl (.ofNat i1, i2) :: .inr (.inr (some (.inl k))) :: stk, L, h, r) => match ev_tg 10 h.2 k with
    | some (.inr (tc', len, els)) => cond (decide (Int.ofNat i1 = i2) && (Nat.beq tc' tc && (match v with
        | none => true
        | some (.inl j) => (match ev_tg 10 h.2 j with
          | some (.inl (ci', _)) => Nat.beq ci' ci
          | _ => false)
        | _ => false))) (ev_ls els i1 (.inr (.inr v)) (fun els' => ev_ts 10 h.2 k (some (.inr (tc', len, els'))) (fun t' => some (n, (stk, L, (h.1, t'), r)))) none) none
    | _ => none
  | _ => none
theorem ev_newa_i {st st' : ev_S} {n tc kd cm sm pc' : Nat} (h : ev_newa n tc kd cm sm st = some (pc', st')) : ∃ N stk, st.1 = .inl (.ofNat N, .ofNat N) :: stk ∧ N < 65536 ∧ st.2.2.1.1 < 1024 ∧ st.2.2.2.1 + 1 ≤ cm ∧ st.2.2.2.2 + N ≤ sm ∧ pc' = n ∧ st' = (ev_ref st.2.2.1.1 :: stk, st.2.1, (st.2.2.1.1 + 1, ev_tS 10 st.2.2.1.2 st.2.2.1.1 (some (.inr (tc, N, List.replicate N (ev_ad kd))))), (st.2.2.2.1 + 1, st.2.2.2.2 + N)) := by
  obtain ⟨stk, L, ⟨sz, t⟩, c1, n1⟩ := st
  match stk, h with
  | .inl (.ofNat k1, k2) :: stk, h =>
    simp only [ev_newa, ev_ts_eq, ev_fN_eq] at h
    obtain ⟨a1, h9⟩ := ev_bt1 h
    clear h
    rw [Bool.and_eq_true, Bool.and_eq_true, Bool.and_eq_true, Bool.and_eq_true, decide_eq_true_eq] at a1
    obtain ⟨rfl, a2, a3, a4, a5⟩ := a1
    cases h9
    exact ⟨k1, stk, rfl, Nat.le_of_ble_eq_true a2, Nat.le_of_ble_eq_true a3, Nat.le_of_ble_eq_true a4, Nat.le_of_ble_eq_true a5, rfl, rfl⟩
theorem ev_alen_i {st st' : ev_S} {n pc' : Nat} (h : ev_alen n st = some (pc', st')) : ∃ k stk tc len els, st.1 = .inr (.inr (some (.inl k))) :: stk ∧ ev_tg 10 st.2.2.1.2 k = some (.inr (tc, len, els)) ∧ pc' = n ∧ st' = (.inl (.ofNat len, .ofNat len) :: stk, st.2) := by
  obtain ⟨stk, L, hp, r⟩ := st
  match stk, h with
  | .inr (.inr (some (.inl k))) :: stk, h =>
    simp only [ev_alen] at h
    split at h
    · next tc len els hq => cases h; exact ⟨k, stk, tc, len, els, rfl, hq, rfl, rfl⟩
    · cases h
theorem ev_ald_i {st st' : ev_S} {n tc pc' : Nat} (h : ev_ald n tc st = some (pc', st')) : ∃ i k stk len els v, st.1 = .inl (.ofNat i, .ofNat i) :: .inr (.inr (some (.inl k))) :: stk ∧ ev_tg 10 st.2.2.1.2 k = some (.inr (tc, len, els)) ∧ els[i]? = some v ∧ pc' = n ∧ st' = (v :: stk, st.2) := by
  obtain ⟨stk, L, hp, r⟩ := st
  match stk, h with
  | .inl (.ofNat i1, i2) :: .inr (.inr (some (.inl k))) :: stk, h =>
    simp only [ev_ald, ev_lg_eq] at h
    split at h
    · next tc' len els hq =>
      split at h
      · next v hv =>
        obtain ⟨a1, a2, h2⟩ := ev_bt h
        rw [decide_eq_true_eq] at a1
        subst a1
        have e1 : tc' = tc := Nat.eq_of_beq_eq_true a2
        subst e1
        cases h2
        exact ⟨i1, k, stk, len, els, v, rfl, hq, hv, rfl, rfl⟩
      · cases h
    · cases h
theorem ev_c16b (x : Int32) : (x.toUInt32.toUInt16.toUInt32.toInt32).toInt = ev_c16 x.toInt := by
  have h : x.toUInt32.toUInt16.toUInt32 = x.toUInt32 % 65536 := by
    apply UInt32.toNat_inj.mp
    simp
  rw [h]
  exact ev_c16_ok x
def ev_narP (tk : Nat) (ad : List Nat) (ex : Nat → Value) (v' : ev_V) (w : Value) : Prop := match tk with
  | 0 => ∃ x : Int32, w = .int x ∧ ev_vR ad ex v' (.int x)
  | 2 => ∃ x : Int32, w = .int x ∧ ev_vR ad ex v' (.int (vp_nar .byte x))
  | 3 => ∃ x : Int32, w = .int x ∧ ev_vR ad ex v' (.int (vp_nar .char x))
  | 4 => ∃ x : Int64, w = .long x ∧ ev_vR ad ex v' (.long x)
  | _ => False
theorem ev_nar_i {β : Type} {tk : Nat} {v : ev_V} {κ : ev_V → Option β} {y : β} (h : ev_nar tk v κ = some y) : ∃ v', κ v' = some y ∧ ∀ (ad : List Nat) (ex : Nat → Value) (w : Value), ev_vR ad ex v w → ev_narP tk ad ex v' w := by
  match tk, v, h with
  | 0, .inl (lo, hi), h => exact ⟨_, h, fun ad ex w ⟨x, hw, h1⟩ => ⟨x, hw, x, rfl, h1⟩⟩
  | 4, .inr (.inl (lo, hi)), h => exact ⟨_, h, fun ad ex w ⟨x, hw, h1⟩ => ⟨x, hw, x, rfl, h1⟩⟩
  | 2, .inl (a1, a2), h =>
    simp only [ev_nar, ev_fI_eq] at h
    by_cases q : a1 = a2
    · rw [decide_eq_true q] at h
      refine ⟨_, h, fun ad ex w ⟨x, hw, h1, h2⟩ => ⟨x, hw, _, rfl, ?_⟩⟩
      rw [vp_nar_byte, ev_b8_ok, show x.toInt = a1 by omega]
      exact ⟨Int.le_refl _, Int.le_refl _⟩
    · rw [decide_eq_false q] at h
      refine ⟨_, h, fun ad ex w ⟨x, hw, h1, h2⟩ => ⟨x, hw, _, rfl, ?_⟩⟩
      rw [vp_nar_byte]
      exact ev_b8_in x
  | 3, .inl (a1, a2), h =>
    simp only [ev_nar, ev_fI_eq] at h
    by_cases q : a1 = a2
    · rw [decide_eq_true q] at h
      refine ⟨_, h, fun ad ex w ⟨x, hw, h1, h2⟩ => ⟨x, hw, _, rfl, ?_⟩⟩
      rw [vp_nar_char]
      have e8 : (x.toUInt32.toUInt16.toUInt32.toInt32).toInt = ev_c16 x.toInt := ev_c16b x
      rw [e8, show x.toInt = a1 by omega]
      exact ⟨Int.le_refl _, Int.le_refl _⟩
    · rw [decide_eq_false q] at h
      refine ⟨_, h, fun ad ex w ⟨x, hw, h1, h2⟩ => ⟨x, hw, _, rfl, ?_⟩⟩
      rw [vp_nar_char]
      have e8 : (x.toUInt32.toUInt16.toUInt32.toInt32).toInt = ev_c16 x.toInt := ev_c16b x
      rw [e8]
      unfold ev_c16
      omega
theorem ev_ast_i {st st' : ev_S} {n tc tk pc' : Nat} (h : ev_ast n tc tk st = some (pc', st')) : ∃ v v' i k stk len els, st.1 = v :: .inl (.ofNat i, .ofNat i) :: .inr (.inr (some (.inl k))) :: stk ∧ ev_tg 10 st.2.2.1.2 k = some (.inr (tc, len, els)) ∧ i < els.length ∧ pc' = n ∧ st' = (stk, st.2.1, (st.2.2.1.1, ev_tS 10 st.2.2.1.2 k (some (.inr (tc, len, els.set i v')))), st.2.2.2) ∧ ∀ (ad : List Nat) (ex : Nat → Value) (w : Value), ev_vR ad ex v w → ev_narP tk ad ex v' w := by
  obtain ⟨stk, L, hp, r⟩ := st
  match stk, h with
  | v :: .inl (.ofNat i1, i2) :: .inr (.inr (some (.inl k))) :: stk, h =>
    simp only [ev_ast] at h
    split at h
    · next tc' len els hq =>
      obtain ⟨a1, a2, h9⟩ := ev_bt h
      clear h
      rw [decide_eq_true_eq] at a1
      subst a1
      have e1 : tc' = tc := Nat.eq_of_beq_eq_true a2
      subst e1
      obtain ⟨v', h8, hv⟩ := ev_nar_i h9
      rw [ev_ls_eq, ev_ts_eq] at h8
      by_cases hi : i1 < els.length
      · rw [if_pos hi] at h8
        cases h8
        exact ⟨v, v', i1, k, stk, len, els, rfl, hq, hi, rfl, rfl, hv⟩
      · rw [if_neg hi] at h8
        cases h8
    · cases h
theorem ev_astq_i {st st' : ev_S} {n tc ci pc' : Nat} (h : ev_astq n tc ci st = some (pc', st')) : ∃ v i k stk len els, st.1 = .inr (.inr v) :: .inl (.ofNat i, .ofNat i) :: .inr (.inr (some (.inl k))) :: stk ∧ ev_tg 10 st.2.2.1.2 k = some (.inr (tc, len, els)) ∧ i < els.length ∧ pc' = n ∧ st' = (stk, st.2.1, (st.2.2.1.1, ev_tS 10 st.2.2.1.2 k (some (.inr (tc, len, els.set i (.inr (.inr v)))))), st.2.2.2) ∧ (v = none ∨ ∃ j fs, v = some (.inl j) ∧ ev_tg 10 st.2.2.1.2 j = some (.inl (ci, fs))) := by
  obtain ⟨stk, L, hp, r⟩ := st
  match stk, h with
  | .inr (.inr v) :: .inl (.ofNat i1, i2) :: .inr (.inr (some (.inl k))) :: stk, h =>
    simp only [ev_astq] at h
    split at h
    · next tc' len els hq =>
      obtain ⟨a1, a2, h9⟩ := ev_bt h
      clear h
      rw [decide_eq_true_eq] at a1
      subst a1
      rw [Bool.and_eq_true] at a2
      obtain ⟨a2, a3⟩ := a2
      have e1 : tc' = tc := Nat.eq_of_beq_eq_true a2
      subst e1
      rw [ev_ls_eq, ev_ts_eq] at h9
      by_cases hi : i1 < els.length
      · rw [if_pos hi] at h9
        cases h9
        refine ⟨v, i1, k, stk, len, els, rfl, hq, hi, rfl, rfl, ?_⟩
        match v, a3 with
        | none, _ => exact Or.inl rfl
        | some (.inl j), a3 =>
          dsimp only at a3
          split at a3
          · next ci' fs hj =>
            have e2 : ci' = ci := Nat.eq_of_beq_eq_true a3
            subst e2
            exact Or.inr ⟨j, fs, rfl, hj⟩
          · cases a3
      · rw [if_neg hi] at h9
        cases h9
    · cases h
/-- a known place of an array -/
theorem ev_ix {x : Int32} {i : Nat} (h1 : (Int.ofNat i) ≤ x.toInt) (h2 : x.toInt ≤ Int.ofNat i) : x.toNatClampNeg = i ∧ ∀ n : Nat, i < n → vp_in x n := by
  have e : x.toInt = (i : Int) := Int.le_antisymm h2 h1
  have e2 : x.toNatClampNeg = i := by
    show x.toInt.toNat = i
    rw [e]
    rfl
  exact ⟨e2, fun n hn => vp_in_iff.mpr ⟨by omega, by omega⟩⟩
theorem ev_upd {els : List ev_V} {ad : List Nat} {ex : Nat → Value} {i : Nat} {v : ev_V} {f : Nat → Value} {w : Value} (h : ∀ j v, els[j]? = some v → ev_vR ad ex v (f j)) (hi : i < els.length) (hv : ev_vR ad ex v w) : ∀ j u, (els.set i v)[j]? = some u → ev_vR ad ex u (if j = i then w else f j) := by
  intro j u hj
  by_cases hij : i = j
  · subst hij
    rw [List.getElem?_set_self hi] at hj
    cases hj
    rw [if_pos rfl]
    exact hv
  · rw [List.getElem?_set_ne hij] at hj
    rw [if_neg (fun z => hij z.symm)]
    exact h j u hj
section EvD
variable {p : Program} {l : Launch} {e : Env} {R : Room} {s : State} {m : MethodId} {args : Array Value} {below : List Frame} {meth : Method} {c : Code} {Q : State → Prop} {nL : Nat} {D : va_G} {cl : List vw_C} {A : Nat → Prop} {H0 : Heap} {ex : Nat → Value} {ad0 : List Nat} {tyOf : Nat → FieldType}
variable {cc : ByteArray} {pc : Nat}
theorem ev_rep {α : Type} {x : α} {n j : Nat} {v : α} (h : (List.replicate n x)[j]? = some v) : v = x := by
  rw [List.getElem?_replicate] at h
  split at h
  · exact (Option.some.inj h).symm
  · cases h
theorem ev_one {tys : List (ClassId × FieldType)} {q : ClassId × FieldType} : ∃ t0 : Nat, (tys ++ [q])[t0]? = some q := ⟨tys.length, by rw [List.getElem?_append_right (Nat.le_refl _), Nat.sub_self]; rfl⟩
theorem ev_last {h1 : Nat} {ws : va_W} {q : Nat} {x : va_E} (hw : ws.length = h1) : ((ws ++ [(q, x)]).map Prod.fst)[h1]? = some q := by
  subst hw
  rw [List.map_append, List.getElem?_append_right (by rw [List.length_map]; exact Nat.le_refl _), List.length_map, Nat.sub_self]
  rfl
/-- a new array of ints or what is narrower -/
theorem ev_newai_ok (hx : p.tables.exec = Jvm.exec) (hb : c.code = cc) {atype : ArrayType} (harr : (Cond.arrayClass (newarray.typeOf atype)).before args s = true) {ty : FieldType} (hty : newarray.typeOf atype = ty) {tc cm sm : Nat} (htc : tyOf tc = ty) (hkd : ev_kd ty = 0) (hdv : defaultValue ty = .int 0) (hby : componentBytes ty ≤ 8) (hA : ∀ q, H0.size ≤ q → A q) (hcm : cm ≤ R.cells) (hsm : sm ≤ R.slots) (hd : decode cc pc = .ok (.newarray atype, 2)) : ev_Sim p l e R s m args below meth c Q nL D cl A H0 ex ad0 tyOf pc (ev_newa (pc + 2) tc 0 cm sm) := by
  intro st pc' st' h g
  obtain ⟨N, stk, e1, hN, h1, h2, h3, rfl, rfl⟩ := ev_newa_i h
  intro H locs ls lv sv ws tys hK hP hD hS hh hl hn hL hs
  rw [e1] at hs
  obtain ⟨w, r, rfl, ⟨x, rfl, hx1, hx2⟩, hr⟩ := hs
  obtain ⟨f1, f2⟩ := ev_ix hx1 hx2
  have f3 := vp_in_iff.mp (f2 (N + 1) (Nat.lt_succ_self N))
  have h0 : ¬ x < 0 := fun z => by have := Int32.lt_iff_toInt_lt.mp z; rw [Int32.toInt_zero] at this; omega
  refine va_newa hx hb harr hty hK hP hD hS hA (a0 := (N, .inl (fun _ => 0))) (fun cA => by rw [vp_cell_i, hdv]) h0 f1 (by calc N * componentBytes ty ≤ 65536 * 8 := Nat.mul_le_mul (Nat.le_of_lt hN) hby
    _ ≤ 536870912 := by decide) (Nat.le_trans h2 hcm) (Nat.le_trans h3 hsm) hd (fun q cA H1 hK1 hP1 hD1 hS1 => ?_)
  refine g H1 locs ls lv (.ref q :: r) _ _ hK1 hP1 hD1 hS1 (ev_hR_push hh h1 ev_app ⟨cA, _, rfl, List.length_replicate, by omega, by rw [htc]; exact ev_one, ?_⟩) hl hn (ev_lR_mono ev_fst_push hL) ⟨_, _, rfl, ⟨q, ev_last hh.1, rfl⟩, ev_kR_mono ev_fst_push hr⟩
  rw [htc, hkd]
  exact ⟨_, rfl, fun j v hj => by rw [ev_rep hj]; exact ⟨0, rfl, Int.le_refl _, Int.le_refl _⟩⟩
theorem ev_newal_ok (hx : p.tables.exec = Jvm.exec) (hb : c.code = cc) {atype : ArrayType} (harr : (Cond.arrayClass (newarray.typeOf atype)).before args s = true) (hty : newarray.typeOf atype = .long) {tc cm sm : Nat} (htc : tyOf tc = .long) (hA : ∀ q, H0.size ≤ q → A q) (hcm : cm ≤ R.cells) (hsm : sm ≤ R.slots) (hd : decode cc pc = .ok (.newarray atype, 2)) : ev_Sim p l e R s m args below meth c Q nL D cl A H0 ex ad0 tyOf pc (ev_newa (pc + 2) tc 1 cm sm) := by
  intro st pc' st' h g
  obtain ⟨N, stk, e1, hN, h1, h2, h3, rfl, rfl⟩ := ev_newa_i h
  intro H locs ls lv sv ws tys hK hP hD hS hh hl hn hL hs
  rw [e1] at hs
  obtain ⟨w, r, rfl, ⟨x, rfl, hx1, hx2⟩, hr⟩ := hs
  obtain ⟨f1, f2⟩ := ev_ix hx1 hx2
  have f3 := vp_in_iff.mp (f2 (N + 1) (Nat.lt_succ_self N))
  have h0 : ¬ x < 0 := fun z => by have := Int32.lt_iff_toInt_lt.mp z; rw [Int32.toInt_zero] at this; omega
  refine va_newa hx hb harr hty hK hP hD hS hA (a0 := (N, .inr (.inl (fun _ => 0)))) (fun cA => by rw [vp_cell_l]; rfl) h0 f1 (by calc N * componentBytes .long ≤ 65536 * 8 := Nat.mul_le_mul (Nat.le_of_lt hN) (by decide)
    _ ≤ 536870912 := by decide) (Nat.le_trans h2 hcm) (Nat.le_trans h3 hsm) hd (fun q cA H1 hK1 hP1 hD1 hS1 => ?_)
  refine g H1 locs ls lv (.ref q :: r) _ _ hK1 hP1 hD1 hS1 (ev_hR_push hh h1 ev_app ⟨cA, _, rfl, List.length_replicate, by omega, by rw [htc]; exact ev_one, ?_⟩) hl hn (ev_lR_mono ev_fst_push hL) ⟨_, _, rfl, ⟨q, ev_last hh.1, rfl⟩, ev_kR_mono ev_fst_push hr⟩
  rw [htc]
  exact ⟨_, rfl, fun j v hj => by rw [ev_rep hj]; exact ⟨0, rfl, Int.le_refl _, Int.le_refl _⟩⟩
theorem ev_newq_ok (hx : p.tables.exec = Jvm.exec) (hb : c.code = cc) {own C : String} {index tc cm sm : Nat} (ho : s.vm.findClass own = some m.cls) (hcl : (Cond.classLink own index C).before args s = true) (hover : va_AO C s) (htc : tyOf tc = .object C) (hA : ∀ q, H0.size ≤ q → A q) (hcm : cm ≤ R.cells) (hsm : sm ≤ R.slots) (hd : decode cc pc = .ok (.anewarray index, 3)) : ev_Sim p l e R s m args below meth c Q nL D cl A H0 ex ad0 tyOf pc (ev_newa (pc + 3) tc 2 cm sm) := by
  intro st pc' st' h g
  obtain ⟨N, stk, e1, hN, h1, h2, h3, rfl, rfl⟩ := ev_newa_i h
  intro H locs ls lv sv ws tys hK hP hD hS hh hl hn hL hs
  rw [e1] at hs
  obtain ⟨w, r, rfl, ⟨x, rfl, hx1, hx2⟩, hr⟩ := hs
  obtain ⟨f1, f2⟩ := ev_ix hx1 hx2
  have f3 := vp_in_iff.mp (f2 (N + 1) (Nat.lt_succ_self N))
  have h0 : ¬ x < 0 := fun z => by have := Int32.lt_iff_toInt_lt.mp z; rw [Int32.toInt_zero] at this; omega
  refine va_newq hx hb ho hcl hover hK hP hD hS hA h0 f1 (by omega) (Nat.le_trans h2 hcm) (Nat.le_trans h3 hsm) hd (fun q cA H1 hK1 hP1 hD1 hS1 => ?_)
  refine g H1 locs ls lv (.ref q :: r) _ _ hK1 hP1 hD1 hS1 (ev_hR_push hh h1 ev_app ⟨cA, _, rfl, List.length_replicate, by omega, by rw [htc]; exact ev_one, ?_⟩) hl hn (ev_lR_mono ev_fst_push hL) ⟨_, _, rfl, ⟨q, ev_last hh.1, rfl⟩, ev_kR_mono ev_fst_push hr⟩
  rw [htc]
  exact ⟨_, rfl, fun j v hj => by rw [ev_rep hj]; exact rfl⟩
theorem ev_alen_ok (hx : p.tables.exec = Jvm.exec) (hb : c.code = cc) (hd : decode cc pc = .ok (.arraylength, 1)) : ev_Sim p l e R s m args below meth c Q nL D cl A H0 ex ad0 tyOf pc (ev_alen (pc + 1)) := by
  intro st pc' st' h g
  obtain ⟨k, stk, tc, len, els, e1, hq, rfl, rfl⟩ := ev_alen_i h
  intro H locs ls lv sv ws tys hK hP hD hS hh hl hn hL hs
  rw [e1] at hs
  obtain ⟨w, r, rfl, hw, hr⟩ := hs
  obtain ⟨a, e2, hwk, rfl⟩ := ev_place hw
  obtain ⟨cA, x, rfl, hlen, hlt, ⟨t0, ht0⟩, hel⟩ := ev_cell hh hwk hq
  have e9 : (Int32.ofNat len).toInt = Int.ofNat len := nI_toInt hlt
  exact va_alen hx hb hK hP k t0 hwk ht0 rfl hd (g H locs ls lv (.int (Int32.ofNat len) :: r) ws tys hK hP hD hS hh hl hn hL ⟨_, _, rfl, ⟨_, rfl, by rw [e9]; exact Int.le_refl _, by rw [e9]; exact Int.le_refl _⟩, hr⟩)
theorem ev_ald_gen {tc n : Nat} {ty : FieldType} (htc : tyOf tc = ty) (hkd : ev_kd ty = 0)
    (row : ∀ (H : Heap) (locs : List Loc) (cells slots : Nat) (ls : Array Slot) (rest : List Value) (ws : va_W) (tys : List (ClassId × FieldType)) (a q0 t0 : Nat) (cA : ClassId) (N : Nat) (f : Nat → Int32) (x : Int32), va_K D cl tys s → va_P D cl ws H → ws[q0]? = some (a, .inl (cA, N, .inl f)) → tys[t0]? = some (cA, ty) → vp_in x N → W p l e R s m args below meth c H locs cells slots Q (F0 m n ls (.int (f x.toNatClampNeg) :: rest)) → W p l e R s m args below meth c H locs cells slots Q (F0 m pc ls (.int x :: .ref a :: rest))) : ev_Sim p l e R s m args below meth c Q nL D cl A H0 ex ad0 tyOf pc (ev_ald n tc) := by
  intro st pc' st' h g
  obtain ⟨i, k, stk, len, els, v, e1, hq, hv, rfl, rfl⟩ := ev_ald_i h
  intro H locs ls lv sv ws tys hK hP hD hS hh hl hn hL hs
  rw [e1] at hs
  obtain ⟨w, r, rfl, ⟨x, rfl, hx1, hx2⟩, w2, r2, rfl, hw2, hr⟩ := hs
  obtain ⟨a, e2, hwk, rfl⟩ := ev_place hw2
  obtain ⟨cA, x9, rfl, hlen, hlt, ⟨t0, ht0⟩, hel⟩ := ev_cell hh hwk hq
  rw [htc] at ht0 hel
  rw [hkd] at hel
  obtain ⟨f, rfl, hf⟩ := hel
  obtain ⟨f1, f2⟩ := ev_ix hx1 hx2
  have hi : i < len := by rw [← hlen]; exact (List.getElem?_eq_some_iff.mp hv).1
  refine row H locs _ _ ls r2 ws tys a k t0 cA len f x hK hP hwk ht0 (f2 len hi) ?_
  rw [f1]
  exact g H locs ls lv (.int (f i) :: r2) ws tys hK hP hD hS hh hl hn hL ⟨_, _, rfl, hf i v hv, hr⟩
theorem ev_iald_ok (hx : p.tables.exec = Jvm.exec) (hb : c.code = cc) {tc : Nat} (htc : tyOf tc = .int) (hd : decode cc pc = .ok (.iaload, 1)) : ev_Sim p l e R s m args below meth c Q nL D cl A H0 ex ad0 tyOf pc (ev_ald (pc + 1) tc) :=
  ev_ald_gen htc rfl (fun _ _ _ _ _ _ _ _ _ q0 t0 _ _ _ _ hK hP ha ht hin k => va_iald hx hb hK hP q0 t0 ha ht hin hd k)
theorem ev_bald_ok (hx : p.tables.exec = Jvm.exec) (hb : c.code = cc) {tc : Nat} (htc : tyOf tc = .byte) (hd : decode cc pc = .ok (.baload, 1)) : ev_Sim p l e R s m args below meth c Q nL D cl A H0 ex ad0 tyOf pc (ev_ald (pc + 1) tc) :=
  ev_ald_gen htc rfl (fun _ _ _ _ _ _ _ _ _ q0 t0 _ _ _ _ hK hP ha ht hin k => va_bald hx hb hK hP q0 t0 ha ht hin hd k)
theorem ev_cald_ok (hx : p.tables.exec = Jvm.exec) (hb : c.code = cc) {tc : Nat} (htc : tyOf tc = .char) (hd : decode cc pc = .ok (.caload, 1)) : ev_Sim p l e R s m args below meth c Q nL D cl A H0 ex ad0 tyOf pc (ev_ald (pc + 1) tc) :=
  ev_ald_gen htc rfl (fun _ _ _ _ _ _ _ _ _ q0 t0 _ _ _ _ hK hP ha ht hin k => va_cald hx hb hK hP q0 t0 ha ht hin hd k)
theorem ev_lald_ok (hx : p.tables.exec = Jvm.exec) (hb : c.code = cc) {tc : Nat} (htc : tyOf tc = .long) (hd : decode cc pc = .ok (.laload, 1)) : ev_Sim p l e R s m args below meth c Q nL D cl A H0 ex ad0 tyOf pc (ev_ald (pc + 1) tc) := by
  intro st pc' st' h g
  obtain ⟨i, k, stk, len, els, v, e1, hq, hv, rfl, rfl⟩ := ev_ald_i h
  intro H locs ls lv sv ws tys hK hP hD hS hh hl hn hL hs
  rw [e1] at hs
  obtain ⟨w, r, rfl, ⟨x, rfl, hx1, hx2⟩, w2, r2, rfl, hw2, hr⟩ := hs
  obtain ⟨a, e2, hwk, rfl⟩ := ev_place hw2
  obtain ⟨cA, x9, rfl, hlen, hlt, ⟨t0, ht0⟩, hel⟩ := ev_cell hh hwk hq
  rw [htc] at ht0 hel
  obtain ⟨f, rfl, hf⟩ := hel
  obtain ⟨f1, f2⟩ := ev_ix hx1 hx2
  have hi : i < len := by rw [← hlen]; exact (List.getElem?_eq_some_iff.mp hv).1
  refine va_lald hx hb hK hP k t0 hwk ht0 (f2 len hi) hd ?_
  rw [f1]
  exact g H locs ls lv (.long (f i) :: r2) ws tys hK hP hD hS hh hl hn hL ⟨_, _, rfl, hf i v hv, hr⟩
theorem ev_aald_ok (hx : p.tables.exec = Jvm.exec) (hb : c.code = cc) {tc : Nat} {C : String} (htc : tyOf tc = .object C) (hd : decode cc pc = .ok (.aaload, 1)) : ev_Sim p l e R s m args below meth c Q nL D cl A H0 ex ad0 tyOf pc (ev_ald (pc + 1) tc) := by
  intro st pc' st' h g
  obtain ⟨i, k, stk, len, els, v, e1, hq, hv, rfl, rfl⟩ := ev_ald_i h
  intro H locs ls lv sv ws tys hK hP hD hS hh hl hn hL hs
  rw [e1] at hs
  obtain ⟨w, r, rfl, ⟨x, rfl, hx1, hx2⟩, w2, r2, rfl, hw2, hr⟩ := hs
  obtain ⟨a, e2, hwk, rfl⟩ := ev_place hw2
  obtain ⟨cA, x9, rfl, hlen, hlt, ⟨t0, ht0⟩, hel⟩ := ev_cell hh hwk hq
  rw [htc] at ht0 hel
  obtain ⟨f, rfl, hf⟩ := hel
  obtain ⟨f1, f2⟩ := ev_ix hx1 hx2
  have hi : i < len := by rw [← hlen]; exact (List.getElem?_eq_some_iff.mp hv).1
  refine va_aldq hx hb hK hP k t0 hwk ht0 (f2 len hi) hd ?_
  rw [f1]
  exact g H locs ls lv (va_rf (f i) :: r2) ws tys hK hP hD hS hh hl hn hL ⟨_, _, rfl, hf i v hv, hr⟩
theorem ev_ast_gen {tc tk n : Nat} {ty : FieldType} {nr : Int32 → Int32} (htc : tyOf tc = ty) (hkd : ev_kd ty = 0)
    (hnr : ∀ (ad : List Nat) (ex : Nat → Value) (v' : ev_V) (w : Value), ev_narP tk ad ex v' w → ∃ x : Int32, w = .int x ∧ ev_vR ad ex v' (.int (nr x)))
    (row : ∀ (H : Heap) (locs : List Loc) (cells slots : Nat) (ls : Array Slot) (rest : List Value) (ws : va_W) (tys : List (ClassId × FieldType)) (a q0 t0 : Nat) (cA : ClassId) (N : Nat) (f : Nat → Int32) (i x : Int32), va_K D cl tys s → va_P D cl ws H → va_D A ws → va_S A H0 H locs → ws[q0]? = some (a, .inl (cA, N, .inl f)) → tys[t0]? = some (cA, ty) → vp_in i N →
      (∀ (H1 : Heap) (locs1 : List Loc), va_P D cl (ws.set q0 (a, .inl (cA, N, .inl (upd f i.toNatClampNeg (nr x))))) H1 → va_D A (ws.set q0 (a, .inl (cA, N, .inl (upd f i.toNatClampNeg (nr x))))) → va_S A H0 H1 locs1 → W p l e R s m args below meth c H1 locs1 cells slots Q (F0 m n ls rest)) → W p l e R s m args below meth c H locs cells slots Q (F0 m pc ls (.int x :: .int i :: .ref a :: rest))) : ev_Sim p l e R s m args below meth c Q nL D cl A H0 ex ad0 tyOf pc (ev_ast n tc tk) := by
  intro st pc' st' h g
  obtain ⟨v, v', i, k, stk, len, els, e1, hq, hi, rfl, rfl, hv⟩ := ev_ast_i h
  intro H locs ls lv sv ws tys hK hP hD hS hh hl hn hL hs
  rw [e1] at hs
  obtain ⟨w, r, rfl, hw, w1, r1, rfl, ⟨y, rfl, hy1, hy2⟩, w2, r2, rfl, hw2, hr⟩ := hs
  obtain ⟨a, e2, hwk, rfl⟩ := ev_place hw2
  obtain ⟨cA, x9, rfl, hlen, hlt, ⟨t0, ht0⟩, hel⟩ := ev_cell hh hwk hq
  have ht1 := ht0
  rw [htc] at ht1 hel
  rw [hkd] at hel
  obtain ⟨f, rfl, hf⟩ := hel
  obtain ⟨f1, f2⟩ := ev_ix hy1 hy2
  obtain ⟨x, rfl, hv1⟩ := hnr _ _ _ _ (hv _ _ _ hw)
  refine row H locs _ _ ls r2 ws tys a k t0 cA len f y x hK hP hD hS hwk ht1 (f2 len (by rw [← hlen]; exact hi)) (fun H1 locs1 hP1 hD1 hS1 => ?_)
  rw [f1] at hP1 hD1
  have ea := ev_fst_set (e' := .inl (cA, len, .inl (upd f i (nr x)))) hwk
  refine g H1 locs1 ls lv r2 _ tys hK hP1 hD1 hS1 (ev_hR_set hh hwk ⟨cA, _, rfl, by rw [List.length_set]; exact hlen, hlt, ⟨t0, ht0⟩, ?_⟩) hl hn (by rw [ea]; exact hL) (by rw [ea]; exact hr)
  rw [htc, hkd]
  refine ⟨_, rfl, fun j u hj => ?_⟩
  have h9 := ev_upd hf hi hv1 j u hj
  unfold upd
  by_cases hji : j = i
  · rw [if_pos hji] at h9 ⊢
    exact h9
  · rw [if_neg hji] at h9 ⊢
    exact h9
theorem ev_iast_ok (hx : p.tables.exec = Jvm.exec) (hb : c.code = cc) {tc : Nat} (htc : tyOf tc = .int) (hd : decode cc pc = .ok (.iastore, 1)) : ev_Sim p l e R s m args below meth c Q nL D cl A H0 ex ad0 tyOf pc (ev_ast (pc + 1) tc 0) :=
  ev_ast_gen (nr := fun x => x) htc rfl (fun _ _ _ _ h => h) (fun _ _ _ _ _ _ _ _ _ q0 t0 _ _ _ _ _ hK hP hD hS ha ht hin k => va_iast hx hb hK hP hD hS q0 t0 ha ht hin hd k)
theorem ev_bast_ok (hx : p.tables.exec = Jvm.exec) (hb : c.code = cc) {tc : Nat} (htc : tyOf tc = .byte) (hd : decode cc pc = .ok (.bastore, 1)) : ev_Sim p l e R s m args below meth c Q nL D cl A H0 ex ad0 tyOf pc (ev_ast (pc + 1) tc 2) :=
  ev_ast_gen (nr := fun x => vp_nar .byte x) htc rfl (fun _ _ _ _ h => h) (fun _ _ _ _ _ _ _ _ _ q0 t0 _ _ _ _ _ hK hP hD hS ha ht hin k => va_bast hx hb hK hP hD hS q0 t0 ha ht hin hd k)
theorem ev_cast_ok (hx : p.tables.exec = Jvm.exec) (hb : c.code = cc) {tc : Nat} (htc : tyOf tc = .char) (hd : decode cc pc = .ok (.castore, 1)) : ev_Sim p l e R s m args below meth c Q nL D cl A H0 ex ad0 tyOf pc (ev_ast (pc + 1) tc 3) :=
  ev_ast_gen (nr := fun x => vp_nar .char x) htc rfl (fun _ _ _ _ h => h) (fun _ _ _ _ _ _ _ _ _ q0 t0 _ _ _ _ _ hK hP hD hS ha ht hin k => va_cast hx hb hK hP hD hS q0 t0 ha ht hin hd k)
theorem ev_last_ok (hx : p.tables.exec = Jvm.exec) (hb : c.code = cc) {tc : Nat} (htc : tyOf tc = .long) (hd : decode cc pc = .ok (.lastore, 1)) : ev_Sim p l e R s m args below meth c Q nL D cl A H0 ex ad0 tyOf pc (ev_ast (pc + 1) tc 4) := by
  intro st pc' st' h g
  obtain ⟨v, v', i, k, stk, len, els, e1, hq, hi, rfl, rfl, hv⟩ := ev_ast_i h
  intro H locs ls lv sv ws tys hK hP hD hS hh hl hn hL hs
  rw [e1] at hs
  obtain ⟨w, r, rfl, hw, w1, r1, rfl, ⟨y, rfl, hy1, hy2⟩, w2, r2, rfl, hw2, hr⟩ := hs
  obtain ⟨a, e2, hwk, rfl⟩ := ev_place hw2
  obtain ⟨cA, x9, rfl, hlen, hlt, ⟨t0, ht0⟩, hel⟩ := ev_cell hh hwk hq
  have ht1 := ht0
  rw [htc] at ht1 hel
  obtain ⟨f, rfl, hf⟩ := hel
  obtain ⟨f1, f2⟩ := ev_ix hy1 hy2
  obtain ⟨x, rfl, hv1⟩ := hv _ _ _ hw
  refine va_last hx hb hK hP hD hS k t0 hwk ht1 (f2 len (by rw [← hlen]; exact hi)) hd (fun H1 locs1 hP1 hD1 hS1 => ?_)
  rw [f1] at hP1 hD1
  have ea := ev_fst_set (e' := .inl (cA, len, .inr (.inl (vp_updL f i x)))) hwk
  refine g H1 locs1 ls lv r2 _ tys hK hP1 hD1 hS1 (ev_hR_set hh hwk ⟨cA, _, rfl, by rw [List.length_set]; exact hlen, hlt, ⟨t0, ht0⟩, ?_⟩) hl hn (by rw [ea]; exact hL) (by rw [ea]; exact hr)
  rw [htc]
  refine ⟨_, rfl, fun j u hj => ?_⟩
  have h9 := ev_upd hf hi hv1 j u hj
  unfold vp_updL
  by_cases hji : j = i
  · rw [if_pos hji] at h9 ⊢
    exact h9
  · rw [if_neg hji] at h9 ⊢
    exact h9
theorem ev_astq_ok (hx : p.tables.exec = Jvm.exec) (hb : c.code = cc) {tc ci : Nat} {r0 : vw_C} (hc : cl[ci]? = some r0) (htc : tyOf tc = .object r0.1) (hd : decode cc pc = .ok (.aastore, 1)) : ev_Sim p l e R s m args below meth c Q nL D cl A H0 ex ad0 tyOf pc (ev_astq (pc + 1) tc ci) := by
  intro st pc' st' h g
  obtain ⟨v, i, k, stk, len, els, e1, hq, hi, rfl, rfl, hv⟩ := ev_astq_i h
  intro H locs ls lv sv ws tys hK hP hD hS hh hl hn hL hs
  rw [e1] at hs
  obtain ⟨w, r, rfl, hw, w1, r1, rfl, ⟨y, rfl, hy1, hy2⟩, w2, r2, rfl, hw2, hr⟩ := hs
  obtain ⟨a, e2, hwk, rfl⟩ := ev_place hw2
  obtain ⟨cA, x9, rfl, hlen, hlt, ⟨t0, ht0⟩, hel⟩ := ev_cell hh hwk hq
  have ht1 := ht0
  rw [htc] at ht1 hel
  obtain ⟨f, rfl, hf⟩ := hel
  obtain ⟨f1, f2⟩ := ev_ix hy1 hy2
  have fin : ∀ (o : Option Nat) (H1 : Heap) (locs1 : List Loc), ev_vR (ws.map Prod.fst) ex (.inr (.inr v)) (va_rf o) → va_P D cl (ws.set k (a, .inl (cA, len, .inr (.inr (.inr (.inr (va_up f i o))))))) H1 → va_D A (ws.set k (a, .inl (cA, len, .inr (.inr (.inr (.inr (va_up f i o))))))) → va_S A H0 H1 locs1 → W p l e R s m args below meth c H1 locs1 st.2.2.2.1 st.2.2.2.2 Q (F0 m (pc + 1) ls r2) := by
    intro o H1 locs1 ho hP1 hD1 hS1
    have ea := ev_fst_set (e' := .inl (cA, len, .inr (.inr (.inr (.inr (va_up f i o)))))) hwk
    refine g H1 locs1 ls lv r2 _ tys hK hP1 hD1 hS1 (ev_hR_set hh hwk ⟨cA, _, rfl, by rw [List.length_set]; exact hlen, hlt, ⟨t0, ht0⟩, ?_⟩) hl hn (by rw [ea]; exact hL) (by rw [ea]; exact hr)
    rw [htc]
    refine ⟨_, rfl, fun j u hj => ?_⟩
    have h9 := ev_upd hf hi ho j u hj
    unfold va_up
    by_cases hji : j = i
    · rw [if_pos hji] at h9 ⊢
      exact h9
    · rw [if_neg hji] at h9 ⊢
      exact h9
  rcases hv with rfl | ⟨j, fs, rfl, hj⟩
  · rw [show w = Value.null from hw]
    refine va_astqN hx hb hK hP hD hS k t0 hwk ht1 (f2 len (by rw [← hlen]; exact hi)) hd (fun H1 locs1 hP1 hD1 hS1 => ?_)
    rw [f1] at hP1 hD1
    exact fin none H1 locs1 rfl hP1 hD1 hS1
  · obtain ⟨b, e3, hwj, rfl⟩ := ev_place hw
    obtain ⟨vs, rfl, -, -⟩ := ev_cell hh hwj hj
    refine va_astq hx hb hK hP hD hS k t0 j ci hwk ht1 hwj hc (f2 len (by rw [← hlen]; exact hi)) hd (fun H1 locs1 hP1 hD1 hS1 => ?_)
    rw [f1] at hP1 hD1
    exact fin (some b) H1 locs1 hw hP1 hD1 hS1
end EvD
end
section
/-! RUNS AND CALLS. -/
/-- on till a place that stops: what stops there, where, and the picture -/
def ev_run (code : Nat → Option (ev_I ⊕ Nat)) : Nat → Nat → ev_S → Option (Nat × Nat × ev_S)
  | 0, _, _ => none
  | n + 1, pc, st => match code pc with
    | some (.inl f) => match f st with
      | some (pc', st') => ev_run code n pc' st'
      | none => none
    | some (.inr k) => some (k, pc, st)
    | none => none
/-- a method's evaluator: its number, its arguments, the heap -/
abbrev ev_E : Type := Nat → List ev_V → ev_Hp → Option (Option ev_V × ev_Hp)
def ev_pops : Nat → List ev_V → List ev_V → Option (List ev_V × List ev_V)
  | 0, r, acc => some (acc, r)
  | n + 1, r, acc => match r with
    | v :: r' => ev_pops n r' (v :: acc)
    | [] => none
theorem ev_pops_i : ∀ (n : Nat) (r acc as rest : List ev_V), ev_pops n r acc = some (as, rest) → ∃ bs : List ev_V, bs.length = n ∧ r = bs ++ rest ∧ as = bs.reverse ++ acc
  | 0, r, acc, as, rest, h => by cases h; exact ⟨[], rfl, rfl, rfl⟩
  | n + 1, v :: r', acc, as, rest, h => by
    obtain ⟨bs, h1, h2, h3⟩ := ev_pops_i n r' (v :: acc) as rest h
    exact ⟨v :: bs, by rw [List.length_cons, h1], by rw [h2]; rfl, by rw [h3, List.reverse_cons, List.append_assoc]; rfl⟩
def ev_cats : List ev_V → Nat
  | [] => 0
  | v :: l => cond (ev_long v) (2 + ev_cats l) (1 + ev_cats l)
theorem ev_cats_ok {ad : List Nat} {ex : Nat → Value} : ∀ {l : List ev_V} {sv : List Value}, ev_kR ad ex l sv → (sv.map fun v => v.category).sum = ev_cats l
  | [], sv, h => by rw [show sv = [] from h]; rfl
  | v :: l, sv, ⟨w, r, h1, h2, h3⟩ => by
    have ih := ev_cats_ok h3
    rw [h1, List.map_cons, List.sum_cons, ih]
    show w.category + ev_cats l = cond (ev_long v) (2 + ev_cats l) (1 + ev_cats l)
    cases hv : ev_long v with
    | false => rw [ev_cat h2 hv]; rfl
    | true =>
      match v, h2, hv with
      | .inr (.inl (lo, hi)), ⟨x, h4, _⟩, _ => rw [h4]; rfl
theorem ev_kR_app {ad : List Nat} {ex : Nat → Value} : ∀ {l1 l2 : List ev_V} {sv : List Value}, ev_kR ad ex (l1 ++ l2) sv → ∃ s1 s2, sv = s1 ++ s2 ∧ s1.length = l1.length ∧ ev_kR ad ex l1 s1 ∧ ev_kR ad ex l2 s2
  | [], l2, sv, h => ⟨[], sv, rfl, rfl, rfl, h⟩
  | v :: l1, l2, sv, ⟨w, r, h1, h2, h3⟩ => by
    obtain ⟨s1, s2, e1, e2, h4, h5⟩ := ev_kR_app h3
    exact ⟨w :: s1, s2, by rw [h1, e1]; rfl, by rw [List.length_cons, List.length_cons, e2], ⟨w, s1, rfl, h2, h4⟩, h5⟩
theorem ev_kR_cat {ad : List Nat} {ex : Nat → Value} : ∀ {l1 l2 : List ev_V} {s1 s2 : List Value}, ev_kR ad ex l1 s1 → ev_kR ad ex l2 s2 → ev_kR ad ex (l1 ++ l2) (s1 ++ s2)
  | [], _, s1, s2, h1, h2 => by rw [show s1 = [] from h1]; exact h2
  | _ :: _, _, _, s2, ⟨w, r, h1, h2, h3⟩, h4 => ⟨w, r ++ s2, by rw [h1]; rfl, h2, ev_kR_cat h3 h4⟩
theorem ev_kR_rev {ad : List Nat} {ex : Nat → Value} : ∀ {l : List ev_V} {sv : List Value}, ev_kR ad ex l sv → ev_kR ad ex l.reverse sv.reverse
  | [], sv, h => by rw [show sv = [] from h]; exact rfl
  | v :: l, sv, ⟨w, r, h1, h2, h3⟩ => by
    rw [h1, List.reverse_cons, List.reverse_cons]
    exact ev_kR_cat (ev_kR_rev h3) ⟨w, [], rfl, h2, rfl⟩
theorem ev_kR_len {ad : List Nat} {ex : Nat → Value} : ∀ {l : List ev_V} {sv : List Value}, ev_kR ad ex l sv → sv.length = l.length
  | [], sv, h => by rw [show sv = [] from h]; rfl
  | v :: l, sv, ⟨w, r, h1, h2, h3⟩ => by rw [h1, List.length_cons, List.length_cons, ev_kR_len h3]
/-- the receiver is a cell of that class -/
def ev_recv (i : Nat) (h : ev_Hp) (as : List ev_V) : Bool := match as with
  | .inr (.inr (some (.inl k))) :: _ => (match ev_tg 10 h.2 k with
    | some (.inl (i', _)) => Nat.beq i' i
    | _ => false)
  | _ => false
def ev_rc1 (_ : ev_Hp) (_ : List ev_V) : Bool := true
def ev_call (n mid na cmx smx cm sm : Nat) (rc : ev_Hp → List ev_V → Bool) (E : ev_E) : ev_I := fun st => match st with
  | (stk, L, h, (c1, n1)) => match ev_pops na stk [] with
    | some (as, rest) => (match E mid as h with
      | some (rv, h') => cond (Nat.ble (ev_cats rest) 8 && (Nat.ble (c1 + cmx) cm && (Nat.ble (n1 + smx) sm && rc h as))) (ev_fN (c1 + cmx) (fun c' => ev_fN (n1 + smx) (fun n' => some (n, ((match rv with
          | none => rest
          | some v => v :: rest), L, h', (c', n')))))) none
      | none => none)
    | none => none
def ev_oR (ad : List Nat) (ex : Nat → Value) : Option ev_V → Option Value → Prop
  | none, o => o = none
  | some v, o => ∃ w, o = some w ∧ ev_vR ad ex v w
/-- what holds where a method begins -/
def ev_Pr (D : va_G) (cl : List vw_C) (A : Nat → Prop) (ex : Nat → Value) (tyOf : Nat → FieldType) (XT : State → Prop) (h : ev_Hp) (w : va_W) (tys : List (ClassId × FieldType)) (U : State) : Prop :=
  va_P D cl w U.heap ∧ va_K D cl tys U ∧ va_D A w ∧ (∀ q, U.heap.size ≤ q → A q) ∧ ev_hR [] tyOf tys ex h w ∧ XT U
/-- .. and where it has returned -/
def ev_Qo (D : va_G) (cl : List vw_C) (A : Nat → Prop) (ex : Nat → Value) (tyOf : Nat → FieldType) (ad : List Nat) (rv : Option ev_V) (h' : ev_Hp) : Array Value → State → Outcome → State → Prop := fun _ st oc t =>
  (∃ (ov : Option Value) (w' : va_W) (tys' : List (ClassId × FieldType)), oc = .returned ov ∧ ev_oR (w'.map Prod.fst) ex rv ov ∧ va_P D cl w' t.heap ∧ va_K D cl tys' t ∧ va_D A w' ∧ ev_hR ad tyOf tys' ex h' w') ∧ va_F A st t
/-- every run of the evaluator is a run of the machine -/
def ev_Snd (l : Launch) (D : va_G) (cl : List vw_C) (A : Nat → Prop) (ex : Nat → Value) (tyOf : Nat → FieldType) (XT : State → Prop) (yOf : Nat → MethodName) (wsOf : Nat → List Cond) (cmOf smOf : Nat → Nat) (d : Nat) (E : ev_E) : Prop :=
  ∀ (mid : Nat) (as : List ev_V) (h : ev_Hp) (rv : Option ev_V) (h' : ev_Hp), E mid as h = some (rv, h') → ∀ (w : va_W) (tys : List (ClassId × FieldType)) (vals : List Value), ev_kR (w.map Prod.fst) ex as vals →
    Met l (yOf mid) (wsOf mid) ({ frames := d, cells := cmOf mid, slots := smOf mid, locals := 64 * d } : Room) (va_Pc vals (ev_Pr D cl A ex tyOf XT h w tys)) (ev_Qo D cl A ex tyOf (w.map Prod.fst) rv h') (cmOf mid) (smOf mid) A
theorem ev_call_i {st st' : ev_S} {n mid na cmx smx cm sm pc' : Nat} {rc : ev_Hp → List ev_V → Bool} {E : ev_E} (h : ev_call n mid na cmx smx cm sm rc E st = some (pc', st')) : ∃ bs rest rv h', st.1 = bs ++ rest ∧ bs.length = na ∧ E mid bs.reverse st.2.2.1 = some (rv, h') ∧ ev_cats rest ≤ 8 ∧ st.2.2.2.1 + cmx ≤ cm ∧ st.2.2.2.2 + smx ≤ sm ∧ rc st.2.2.1 bs.reverse = true ∧ pc' = n ∧ st' = ((match rv with
    | none => rest
    | some v => v :: rest), st.2.1, h', (st.2.2.2.1 + cmx, st.2.2.2.2 + smx)) := by
  obtain ⟨stk, L, hp, c1, n1⟩ := st
  simp only [ev_call, ev_fN_eq] at h
  split at h
  · next as rest hp2 =>
    obtain ⟨bs, e1, e2, e3⟩ := ev_pops_i _ _ _ _ _ hp2
    rw [List.append_nil] at e3
    subst e3
    split at h
    · next rv h' hE =>
      obtain ⟨a1, h9⟩ := ev_bt1 h
      clear h
      rw [Bool.and_eq_true, Bool.and_eq_true, Bool.and_eq_true] at a1
      obtain ⟨a1, a2, a3, a4⟩ := a1
      cases h9
      exact ⟨bs, rest, rv, h', e2, e1, hE, Nat.le_of_ble_eq_true a1, Nat.le_of_ble_eq_true a2, Nat.le_of_ble_eq_true a3, a4, rfl, rfl⟩
    · cases h
  · cases h
theorem ev_hR_ad {ad0 ad : List Nat} {tyOf : Nat → FieldType} {tys : List (ClassId × FieldType)} {ex : Nat → Value} {h : ev_Hp} {ws : va_W} (hm : ∀ k a : Nat, ad0[k]? = some a → ad[k]? = some a) (hh : ev_hR ad tyOf tys ex h ws) : ev_hR ad0 tyOf tys ex h ws :=
  ⟨hh.1, hh.2.1, fun k a z => hh.2.2.1 k a (hm k a z), hh.2.2.2⟩
section EvF
variable {p : Program} {l : Launch} {e : Env} {R : Room} {s : State} {m : MethodId} {args : Array Value} {below : List Frame} {meth : Method} {c : Code} {Q : State → Prop} {nL : Nat} {D : va_G} {cl : List vw_C} {A : Nat → Prop} {H0 : Heap} {ex : Nat → Value} {ad0 : List Nat} {tyOf : Nat → FieldType}
variable {cc : ByteArray} {pc : Nat}
theorem ev_run_ok {code : Nat → Option (ev_I ⊕ Nat)} (hsim : ∀ pc f, code pc = some (.inl f) → ev_Sim p l e R s m args below meth c Q nL D cl A H0 ex ad0 tyOf pc f) : ∀ (n pc : Nat) (st : ev_S) (k pc1 : Nat) (st1 : ev_S), ev_run code n pc st = some (k, pc1, st1) → code pc1 = some (.inr k) ∧ (ev_G p l e R s m args below meth c Q nL D cl A H0 ex ad0 tyOf pc1 st1 → ev_G p l e R s m args below meth c Q nL D cl A H0 ex ad0 tyOf pc st)
  | 0, _, _, _, _, _, h => by cases h
  | n + 1, pc, st, k, pc1, st1, h => by
    simp only [ev_run] at h
    split at h
    · next f hf =>
      split at h
      · next pc' st' hs =>
        obtain ⟨h1, h2⟩ := ev_run_ok hsim n pc' st' k pc1 st1 h
        exact ⟨h1, fun g => hsim pc f hf st pc' st' hs (h2 g)⟩
      · cases h
    · next k' hk =>
      cases h
      exact ⟨hk, fun g => g⟩
    · cases h
/-- behind a call -/
theorem ev_after {H : Heap} {locs : List Loc} {cells slots mc ms : Nat} {ls : Array Slot} {st0 rest : List Value} {a : Array Value} {ad : List Nat} {rv : Option ev_V} {h' : ev_Hp} (hr : va_Run p l e R s m args below meth c H locs cells slots mc ms (F0 m pc ls st0) rest (ev_Qo D cl A ex tyOf ad rv h' a) A) (hS : va_S A H0 H locs)
    (kk : ∀ (ov : Option Value) (w' : va_W) (tys' : List (ClassId × FieldType)) (H1 : Heap) (locs1 : List Loc), ev_oR (w'.map Prod.fst) ex rv ov → va_P D cl w' H1 → va_K D cl tys' s → va_D A w' → ev_hR ad tyOf tys' ex h' w' → va_S A H0 H1 locs1 → W p l e R s m args below meth c H1 locs1 (cells + mc) (slots + ms) Q (F0 m (pc + 3) ls (ov.toList ++ rest))) : W p l e R s m args below meth c H locs cells slots Q (F0 m pc ls st0) := by
  intro T hT X
  obtain ⟨v, st₀, t, T', L, h0, X', hL, e1, e2, ⟨⟨ov, w', tys', hv, ho, hP, hK, hD, hh⟩, hz, hk⟩, st⟩ := hr T hT X
  cases hv
  rw [h0] at hz hk
  have hal : t.vm.Alike s.vm := by
    have h1 : s.vm.Alike t.vm := by rw [← e2]; exact X'.warmed.alike
    exact h1.symm
  obtain ⟨t2, a1, b1⟩ := kk v w' tys' T'.heap (locs ++ L) ho (by rw [e1]; exact hP) (va_K.moved hal hK) hD hh
    ⟨Nat.le_trans hS.1 (by rw [e1]; exact hz), fun q h1 h2 => by rw [e1, hk q (Nat.lt_of_lt_of_le h1 hS.1) h2]; exact hS.2.1 q h1 h2, fun q hq => by
      rcases List.mem_append.mp hq with h | h
      · exact hS.2.2 q h
      · exact hL q h⟩ T' rfl X'
  exact ⟨t2, st t2 a1, b1⟩
variable {XT : State → Prop} {yOf : Nat → MethodName} {wsOf : Nat → List Cond} {cmOf smOf : Nat → Nat} {d : Nat}
/-- a call of any kind: 'run' is the kit's row for it -/
theorem ev_call_gen {mid na cm sm : Nat} {rc : ev_Hp → List ev_V → Bool} {E : ev_E} (hE : ev_Snd l D cl A ex tyOf XT yOf wsOf cmOf smOf d E) (hcm : cm ≤ R.cells) (hsm : sm ≤ R.slots)
    (run : ∀ (H : Heap) (locs : List Loc) (cells slots : Nat) (ls : Array Slot) (w : va_W) (tys : List (ClassId × FieldType)) (h h' : ev_Hp) (rv : Option ev_V) (as : List ev_V) (vals rest : List Value), va_K D cl tys s → va_P D cl w H → va_D A w → va_S A H0 H locs → ev_hR ad0 tyOf tys ex h w → ls.size = nL → ev_kR (w.map Prod.fst) ex as vals → vals.length = na → rc h as = true → (rest.map fun v => v.category).sum ≤ 8 → cells + cmOf mid ≤ R.cells → slots + smOf mid ≤ R.slots →
      Met l (yOf mid) (wsOf mid) ({ frames := d, cells := cmOf mid, slots := smOf mid, locals := 64 * d } : Room) (va_Pc vals (ev_Pr D cl A ex tyOf XT h w tys)) (ev_Qo D cl A ex tyOf (w.map Prod.fst) rv h') (cmOf mid) (smOf mid) A →
      va_Run p l e R s m args below meth c H locs cells slots (cmOf mid) (smOf mid) (F0 m pc ls (vals.reverse ++ rest)) rest (ev_Qo D cl A ex tyOf (w.map Prod.fst) rv h' vals.toArray) A) : ev_Sim p l e R s m args below meth c Q nL D cl A H0 ex ad0 tyOf pc (ev_call (pc + 3) mid na (cmOf mid) (smOf mid) cm sm rc E) := by
  intro st pc' st' h g
  obtain ⟨bs, rest, rv, h', e1, e2, hEm, f1, f2, f3, f4, rfl, rfl⟩ := ev_call_i h
  intro H locs ls lv sv ws tys hK hP hD hS hh hl hn hL hs
  rw [e1] at hs
  obtain ⟨s1, s2, rfl, hlen, hs1, hs2⟩ := ev_kR_app hs
  have hv := ev_kR_rev hs1
  have hmet := hE mid bs.reverse st.2.2.1 rv h' hEm ws tys s1.reverse hv
  have hr := run H locs st.2.2.2.1 st.2.2.2.2 ls ws tys st.2.2.1 h' rv bs.reverse s1.reverse s2 hK hP hD hS hh hl.1 hv (by rw [List.length_reverse, hlen, e2]) f4 (by rw [ev_cats_ok hs2]; exact f1) (Nat.le_trans f2 hcm) (Nat.le_trans f3 hsm) hmet
  rw [List.reverse_reverse] at hr
  refine ev_after hr hS (fun ov w' tys' H1 locs1 ho hP1 hK1 hD1 hh1 hS1 => ?_)
  have hm : ∀ k a : Nat, (ws.map Prod.fst)[k]? = some a → (w'.map Prod.fst)[k]? = some a := hh1.2.2.1
  refine g H1 locs1 ls lv (ov.toList ++ s2) w' tys' hK1 hP1 hD1 hS1 (ev_hR_ad hh.2.2.1 hh1) hl hn (ev_lR_mono hm hL) ?_
  match rv, ho with
  | none, ho => rw [show ov = none from ho]; exact ev_kR_mono hm hs2
  | some v, ⟨w, ho, hw⟩ => rw [ho]; exact ⟨w, s2, rfl, hw, ev_kR_mono hm hs2⟩
/-- what is said of things outside holds wherever nothing outside the world has changed -/
def ev_Xok (A : Nat → Prop) (XT : State → Prop) : Prop := ∀ s U : State, s.vm.Alike U.vm → s.heap.size ≤ U.heap.size → (∀ q : Nat, q < s.heap.size → ¬ A q → U.heap[q]? = s.heap[q]?) → XT s → XT U
theorem ev_blind (hX : ev_Xok A XT) {vals : List Value} {h : ev_Hp} {w : va_W} {tys : List (ClassId × FieldType)} : FrameBlind (va_Pc vals (ev_Pr D cl A ex tyOf XT h w tys)) := by
  intro a U g mk q
  obtain ⟨q0, q1, q2, q3, q4, q5, q6⟩ := q
  exact ⟨q0, q1, va_K.moved (u := U) (U := U.calling g mk a) (Vm.Alike.refl U.vm) q2, q3, q4, q5, hX U (U.calling g mk a) (Vm.Alike.refl U.vm) (Nat.le_refl _) (fun _ _ _ => rfl) q6⟩
/-- the callee's start, from the caller's -/
theorem ev_start (hX : ev_Xok A XT) (hXs : XT s) (hA : ∀ q, s.heap.size ≤ q → A q) {H : Heap} {locs : List Loc} {w : va_W} {tys : List (ClassId × FieldType)} {h : ev_Hp} {vals : List Value} (hK : va_K D cl tys s) (hP : va_P D cl w H) (hD : va_D A w) (hS : va_S A s.heap H locs) (hh : ev_hR ad0 tyOf tys ex h w) : ∀ U : State, U.heap = H → s.WarmedH U.vm → va_Pc vals (ev_Pr D cl A ex tyOf XT h w tys) vals.toArray U := by
  intro U hU hW
  refine ⟨rfl, by rw [hU]; exact hP, va_K.moved hW.alike hK, hD, fun q hq => hA q (Nat.le_trans hS.1 (by rw [← hU]; exact hq)), ev_hR_ad (fun k a z => by simp at z) hh, hX s U hW.alike (by rw [hU]; exact hS.1) (fun q h1 h2 => by rw [hU]; exact hS.2.1 q h1 h2) hXs⟩
end EvF
end
section
/-! METHODS: the kinds of calls, returns, and every run of the evaluator a run of the machine. -/
def ev_objinit (n : Nat) : ev_I := fun st => match st with
  | (.inr (.inr (some (.inl _))) :: stk, r) => cond (Nat.ble (ev_cats stk) 8) (some (n, (stk, r))) none
  | _ => none
def ev_lay : List ev_V → List (Option ev_V)
  | [] => []
  | v :: l => cond (ev_long v) (some v :: none :: ev_lay l) (some v :: ev_lay l)
def ev_ent (nL : Nat) (as : List ev_V) : List (Option ev_V) := ev_lay as ++ List.replicate (nL - (ev_lay as).length) none
/-- what stops a method: 0 return, 1 an int, 2 a boolean, 3 a char, 4 a byte, 5 a reference -/
def ev_out (k : Nat) (stk : List ev_V) (h' : ev_Hp) : Option (Option ev_V × ev_Hp) := match k, stk with
  | 0, [] => some (none, h')
  | 1, [.inl v] => some (some (.inl v), h')
  | 2, [.inl (lo, hi)] => cond (decide (0 ≤ lo) && decide (hi ≤ 1)) (some (some (.inl (lo, hi)), h')) none
  | 3, [.inl (lo, hi)] => cond (decide (0 ≤ lo) && decide (hi ≤ 65535)) (some (some (.inl (lo, hi)), h')) none
  | 4, [.inl (lo, hi)] => cond (decide (0 ≤ lo) && decide (hi ≤ 127)) (some (some (.inl (lo, hi)), h')) none
  | 5, [.inr (.inr v)] => some (some (.inr (.inr v)), h')
  | _, _ => none
def ev_M (mc : Nat → ev_E → Nat → Option (ev_I ⊕ Nat)) (nLOf cmOf smOf : Nat → Nat) (fuel : Nat) : Nat → ev_E
  | 0 => fun _ _ _ => none
  | d + 1 => fun mid as h => match ev_run (mc mid (ev_M mc nLOf cmOf smOf fuel d)) fuel 0 ([], ev_ent (nLOf mid) as, h, (0, 0)) with
    | some (k, _, (stk, _, h', (c1, n1))) => cond (Nat.ble (ev_lay as).length (nLOf mid) && (Nat.ble c1 (cmOf mid) && Nat.ble n1 (smOf mid))) (ev_out k stk h') none
    | none => none
def ev_stop (k : Nat) (cc : ByteArray) (pc : Nat) (ret : Option FieldType) : Prop := match k with
  | 0 => decode cc pc = .ok (.return_, 1) ∧ ret = none
  | 1 => decode cc pc = .ok (.ireturn, 1) ∧ ret = some .int
  | 2 => decode cc pc = .ok (.ireturn, 1) ∧ ret = some .boolean
  | 3 => decode cc pc = .ok (.ireturn, 1) ∧ ret = some .char
  | 4 => decode cc pc = .ok (.ireturn, 1) ∧ ret = some .byte
  | 5 => decode cc pc = .ok (.areturn, 1) ∧ ∃ rt, ret = some rt ∧ ((∃ n, rt = .object n) ∨ ∃ t, rt = .array t)
  | _ => True
/-- what the tables of a claim owe -/
def ev_Tab (l : Launch) (D : va_G) (cl : List vw_C) (A : Nat → Prop) (ex : Nat → Value) (tyOf : Nat → FieldType) (XT : State → Prop) (yOf : Nat → MethodName) (bOf : Nat → ByteArray) (nLOf : Nat → Nat) (retOf : Nat → Option FieldType) (wsOf : Nat → List Cond) (cmOf smOf : Nat → Nat) (mc : Nat → ev_E → Nat → Option (ev_I ⊕ Nat)) : Prop :=
  ∀ mid : Nat, (∃ E pc x, mc mid E pc = some x) → plainName (yOf mid).cls = true ∧ (∃ ws', wsOf mid = Cond.code (yOf mid) (bOf mid) (nLOf mid) (retOf mid) :: ws') ∧
    ∀ (d : Nat) (E : ev_E), ev_Snd l D cl A ex tyOf XT yOf wsOf cmOf smOf d E → ∀ (p : Program) (e : Env) (R : Room) (s : State) (m : MethodId) (args : Array Value) (below : List Frame) (meth : Method) (c : Code) (Q : State → Prop) (ad0 : List Nat),
      p.tables.exec = Jvm.exec → c.code = bOf mid → c.maxLocals = nLOf mid → meth.name = (yOf mid).name → s.vm.findClass (yOf mid).cls = some m.cls → (∀ w ∈ wsOf mid, w.before args s = true) → XT s → (∀ q, s.heap.size ≤ q → A q) → R = ({ frames := d + 1, cells := cmOf mid, slots := smOf mid, locals := 64 * (d + 1) } : Room) →
      (∀ pc f, mc mid E pc = some (.inl f) → ev_Sim p l e R s m args below meth c Q (nLOf mid) D cl A s.heap ex ad0 tyOf pc f) ∧ (∀ pc k, mc mid E pc = some (.inr k) → ev_stop k (bOf mid) pc (retOf mid))
theorem ev_lay_len {ad : List Nat} {ex : Nat → Value} : ∀ {as : List ev_V} {vals : List Value}, ev_kR ad ex as vals → (lg_sl vals).length = (ev_lay as).length
  | [], vals, h => by rw [show vals = [] from h]; rfl
  | v :: as, vals, ⟨w, r, h1, h2, h3⟩ => by
    have ih := ev_lay_len h3
    rw [h1]
    show (lg_sl (w :: r)).length = (cond (ev_long v) (some v :: none :: ev_lay as) (some v :: ev_lay as)).length
    have e1 : lg_sl (w :: r) = (if w.category = 2 then [Slot.val w, .second] else [Slot.val w]) ++ lg_sl r := rfl
    rw [e1, List.length_append, ih]
    cases hv : ev_long v with
    | false =>
      rw [ev_cat h2 hv]
      simp [Nat.add_comm]
    | true =>
      match v, h2, hv with
      | .inr (.inl (lo, hi)), ⟨x, h4, _⟩, _ =>
        rw [h4]
        simp only [Value.category, cond_true, List.length_cons, if_true, List.length_nil]
        omega
theorem ev_lay_at {ad : List Nat} {ex : Nat → Value} : ∀ {as : List ev_V} {vals : List Value} (i0 : Nat), ev_kR ad ex as vals → ∀ (j : Nat) (v : ev_V), (ev_lay as)[j]? = some (some v) → ∃ w, (i0 + j, w) ∈ lv_args i0 vals ∧ ev_vR ad ex v w
  | [], vals, i0, h, j, v, hj => by simp [ev_lay] at hj
  | u :: as, vals, i0, ⟨w, r, h1, h2, h3⟩, j, v, hj => by
    rw [h1]
    have hj : (cond (ev_long u) (some u :: none :: ev_lay as) (some u :: ev_lay as))[j]? = some (some v) := hj
    show ∃ x, (i0 + j, x) ∈ (i0, w) :: lv_args (if w.category = 2 then i0 + 2 else i0 + 1) r ∧ ev_vR ad ex v x
    cases hu : ev_long u with
    | false =>
      rw [hu] at hj
      rw [ev_cat h2 hu]
      match j, hj with
      | 0, hj =>
        cases hj
        exact ⟨w, List.mem_cons_self, h2⟩
      | j + 1, hj =>
        obtain ⟨x, hx, hr⟩ := ev_lay_at (i0 + 1) h3 j v (by simpa using hj)
        exact ⟨x, List.mem_cons_of_mem _ (by rw [if_neg (by decide), show i0 + (j + 1) = i0 + 1 + j by omega]; exact hx), hr⟩
    | true =>
      rw [hu] at hj
      have hc : w.category = 2 := by
        match u, h2, hu with
        | .inr (.inl (lo, hi)), ⟨x, h4, _⟩, _ => rw [h4]; rfl
      rw [hc]
      match j, hj with
      | 0, hj =>
        cases hj
        exact ⟨w, List.mem_cons_self, h2⟩
      | 1, hj => simp at hj
      | j + 2, hj =>
        obtain ⟨x, hx, hr⟩ := ev_lay_at (i0 + 2) h3 j v (by simpa using hj)
        exact ⟨x, List.mem_cons_of_mem _ (by rw [if_pos rfl, show i0 + (j + 2) = i0 + 2 + j by omega]; exact hx), hr⟩
theorem ev_ent_ok {ad : List Nat} {ex : Nat → Value} {as : List ev_V} {vals : List Value} {nL : Nat} (h : ev_kR ad ex as vals) : ev_lR ad ex (ev_ent nL as) (lv_args 0 vals) := by
  intro j v hj
  unfold ev_ent at hj
  by_cases hl : j < (ev_lay as).length
  · rw [List.getElem?_append_left hl] at hj
    obtain ⟨w, h1, h2⟩ := ev_lay_at 0 h j v hj
    rw [Nat.zero_add] at h1
    exact ⟨w, h1, h2⟩
  · rw [List.getElem?_append_right (by omega), List.getElem?_replicate] at hj
    split at hj
    · cases hj
    · cases hj
section EvG
variable {p : Program} {l : Launch} {e : Env} {R : Room} {s : State} {m : MethodId} {args : Array Value} {below : List Frame} {meth : Method} {c : Code} {Q : State → Prop} {nL : Nat} {D : va_G} {cl : List vw_C} {A : Nat → Prop} {H0 : Heap} {ex : Nat → Value} {ad0 : List Nat} {tyOf : Nat → FieldType}
variable {cc : ByteArray} {pc : Nat} {XT : State → Prop} {yOf : Nat → MethodName} {wsOf : Nat → List Cond} {cmOf smOf : Nat → Nat} {d : Nat}
theorem ev_objinit_ok (hx : p.tables.exec = Jvm.exec) (hb : c.code = cc) (hml : c.maxLocals = nL) {own : String} (ho : s.vm.findClass own = some m.cls) {idx : Nat} (hlink : (Cond.methodLink own idx Lib.objectInit).before args s = true) (hinst : (Cond.instanceMethod Lib.objectInit).before args s = true) (hcode : (Cond.code Lib.objectInit ⟨#[0xb1]⟩ 1 none).before args s = true) (hd : decode cc pc = .ok (.invokespecial idx, 3)) (hfr : 1 ≤ R.frames) (hlo : 20 ≤ R.locals) : ev_Sim p l e R s m args below meth c Q nL D cl A H0 ex ad0 tyOf pc (ev_objinit (pc + 3)) := by
  intro st pc' st' h g
  obtain ⟨stk, r⟩ := st
  match stk, h with
  | .inr (.inr (some (.inl v))) :: stk, h =>
    obtain ⟨h1, h2⟩ := ev_bt1 h
    clear h
    cases h2
    intro H locs ls lv sv ws tys hK hP hD hS hh hl hn hL hs
    obtain ⟨w, q, rfl, hw, hq⟩ := hs
    have h3 : (q.map fun v => v.category).sum ≤ 8 := by rw [ev_cats_ok hq]; exact Nat.le_of_ble_eq_true h1
    obtain ⟨a, -, rfl⟩ := hw
    · refine W.objInit hx hb ho hlink hinst hcode (g := F0 m pc ls (.ref a :: q)) rfl (by rw [hml]; exact hl.1) rfl hd hfr ?_ (g H locs ls lv q ws tys hK hP hD hS hh hl hn hL hq)
      have h4 := lv_room (m := m) (pc := pc) (ls := ls) (rest := .ref a :: q) h3
      omega
theorem ev_recv_ok {i : Nat} {r0 : vw_C} {ws : va_W} {tys : List (ClassId × FieldType)} {h : ev_Hp} {as : List ev_V} {vals : List Value} {H : Heap} (hr : ev_recv i h as = true) (hc : cl[i]? = some r0) (hK : va_K D cl tys s) (hP : va_P D cl ws H) (hh : ev_hR ad0 tyOf tys ex h ws) (hv : ev_kR (ws.map Prod.fst) ex as vals) : ∃ b As, vals = .ref b :: As ∧ ∃ cell : Cell, H[b]? = some cell ∧ cell.vm.isStatics = false ∧ s.vm.findClass r0.1 = some cell.cls := by
  match as, hr, hv with
  | .inr (.inr (some (.inl k))) :: as', hr, ⟨w, r, h1, h2, h3⟩ =>
    obtain ⟨a, e2, hwk, rfl⟩ := ev_place h2
    have hr : (match ev_tg 10 h.2 k with
      | some (.inl (i', _)) => Nat.beq i' i
      | _ => false) = true := hr
    split at hr
    · next i' fs hq =>
      have e1 : i' = i := Nat.eq_of_beq_eq_true hr
      subst e1
      obtain ⟨vs, rfl, -, -⟩ := ev_cell hh hwk hq
      exact ⟨a, r, h1, va_recv hK hP hc hwk⟩
    · cases hr
theorem ev_callV_ok {own C : String} {index mid n i cm sm maxL : Nat} {bytes : ByteArray} {ret : Option FieldType} {Ts : List Cond} {r0 : vw_C} {E : ev_E} (S : CallFix p m c cc nL s args Ts own) (hE : ev_Snd l D cl A ex tyOf XT yOf wsOf cmOf smOf d E) (hcm : cm ≤ R.cells) (hsm : sm ≤ R.slots) (hX : ev_Xok A XT) (hXs : XT s) (hA : ∀ q, s.heap.size ≤ q → A q) (hc : cl[i]? = some r0) (hC : r0.1 = C)
    (cw : CallW R s args own C index (yOf mid) bytes maxL ret (wsOf mid) ({ frames := d, cells := cmOf mid, slots := smOf mid, locals := 64 * d } : Room) (cmOf mid) (smOf mid) n) (hd : decode cc pc = .ok (.invokevirtual index, 3)) : ev_Sim p l e R s m args below meth c Q nL D cl A s.heap ex ad0 tyOf pc (ev_call (pc + 3) mid (n + 1) (cmOf mid) (smOf mid) cm sm (ev_recv i) E) := by
  refine ev_call_gen hE hcm hsm (fun H locs cells slots ls w tys h h' rv as vals rest hK hP hD hS hh hsz hv hlen hr hrest h1 h2 hM => ?_)
  obtain ⟨b, As, rfl, hcell⟩ := ev_recv_ok hr hc hK hP hh hv
  rw [hC] at hcell
  exact va_runV S hM cw ⟨ev_blind hX, hcell, ev_start hX hXs hA hK hP hD hS hh⟩ rfl (by simpa using hlen) hsz (by simp) (lv_room hrest) hd ⟨h1, h2⟩
theorem ev_callVN_ok {own C host : String} {index mid n i cm sm maxL : Nat} {bytes : ByteArray} {ret : Option FieldType} {Ts : List Cond} {r0 : vw_C} {E : ev_E} (S : CallFix p m c cc nL s args Ts own) (hE : ev_Snd l D cl A ex tyOf XT yOf wsOf cmOf smOf d E) (hcm : cm ≤ R.cells) (hsm : sm ≤ R.slots) (hX : ev_Xok A XT) (hXs : XT s) (hA : ∀ q, s.heap.size ≤ q → A q) (hc : cl[i]? = some r0) (hC : r0.1 = C)
    (cw : va_CN R s args own index (yOf mid) host bytes maxL ret (wsOf mid) ({ frames := d, cells := cmOf mid, slots := smOf mid, locals := 64 * d } : Room) (cmOf mid) (smOf mid) n ∧ (Cond.instanceMethod (yOf mid)).before args s = true ∧ (Cond.selects C (yOf mid) (yOf mid)).before args s = true) (hd : decode cc pc = .ok (.invokevirtual index, 3)) : ev_Sim p l e R s m args below meth c Q nL D cl A s.heap ex ad0 tyOf pc (ev_call (pc + 3) mid (n + 1) (cmOf mid) (smOf mid) cm sm (ev_recv i) E) := by
  refine ev_call_gen hE hcm hsm (fun H locs cells slots ls w tys h h' rv as vals rest hK hP hD hS hh hsz hv hlen hr hrest h1 h2 hM => ?_)
  obtain ⟨b, As, rfl, hcell⟩ := ev_recv_ok hr hc hK hP hh hv
  rw [hC] at hcell
  exact va_runVN S hM cw ⟨ev_blind hX, hcell, ev_start hX hXs hA hK hP hD hS hh⟩ rfl (by simpa using hlen) hsz (by simp) (lv_room hrest) hd ⟨h1, h2⟩
theorem ev_callS_ok {own : String} {index mid n cm sm maxL : Nat} {bytes : ByteArray} {ret : Option FieldType} {Ts : List Cond} {E : ev_E} (S : CallFix p m c cc nL s args Ts own) (hE : ev_Snd l D cl A ex tyOf XT yOf wsOf cmOf smOf d E) (hcm : cm ≤ R.cells) (hsm : sm ≤ R.slots) (hX : ev_Xok A XT) (hXs : XT s) (hA : ∀ q, s.heap.size ≤ q → A q)
    (cw : CallB R s args own index (yOf mid) bytes maxL ret (wsOf mid) ({ frames := d, cells := cmOf mid, slots := smOf mid, locals := 64 * d } : Room) (cmOf mid) (smOf mid) n ∧ (Cond.static (yOf mid)).before args s = true) (hd : decode cc pc = .ok (.invokestatic index, 3)) : ev_Sim p l e R s m args below meth c Q nL D cl A s.heap ex ad0 tyOf pc (ev_call (pc + 3) mid n (cmOf mid) (smOf mid) cm sm ev_rc1 E) := by
  refine ev_call_gen hE hcm hsm (fun H locs cells slots ls w tys h h' rv as vals rest hK hP hD hS hh hsz hv hlen hr hrest h1 h2 hM => ?_)
  exact va_runS S hM cw ⟨ev_blind hX, ev_start hX hXs hA hK hP hD hS hh⟩ rfl hlen hsz rfl (lv_room hrest) hd ⟨h1, h2⟩
theorem ev_callSN_ok {own host : String} {index mid n cm sm maxL : Nat} {bytes : ByteArray} {ret : Option FieldType} {Ts : List Cond} {E : ev_E} (S : CallFix p m c cc nL s args Ts own) (hE : ev_Snd l D cl A ex tyOf XT yOf wsOf cmOf smOf d E) (hcm : cm ≤ R.cells) (hsm : sm ≤ R.slots) (hX : ev_Xok A XT) (hXs : XT s) (hA : ∀ q, s.heap.size ≤ q → A q)
    (cw : va_CN R s args own index (yOf mid) host bytes maxL ret (wsOf mid) ({ frames := d, cells := cmOf mid, slots := smOf mid, locals := 64 * d } : Room) (cmOf mid) (smOf mid) n ∧ (Cond.static (yOf mid)).before args s = true ∧ True) (hd : decode cc pc = .ok (.invokestatic index, 3)) : ev_Sim p l e R s m args below meth c Q nL D cl A s.heap ex ad0 tyOf pc (ev_call (pc + 3) mid n (cmOf mid) (smOf mid) cm sm ev_rc1 E) := by
  refine ev_call_gen hE hcm hsm (fun H locs cells slots ls w tys h h' rv as vals rest hK hP hD hS hh hsz hv hlen hr hrest h1 h2 hM => ?_)
  exact va_runSN S hM cw ⟨ev_blind hX, ev_start hX hXs hA hK hP hD hS hh⟩ rfl hlen hsz rfl (lv_room hrest) hd ⟨h1, h2⟩
theorem ev_callI_ok {own : String} {index mid n i cm sm maxL : Nat} {bytes : ByteArray} {Ts : List Cond} {r0 : vw_C} {E : ev_E} (S : CallFix p m c cc nL s args Ts own) (hE : ev_Snd l D cl A ex tyOf XT yOf wsOf cmOf smOf d E) (hcm : cm ≤ R.cells) (hsm : sm ≤ R.slots) (hX : ev_Xok A XT) (hXs : XT s) (hA : ∀ q, s.heap.size ≤ q → A q) (hc : cl[i]? = some r0)
    (cw : CallB R s args own index (yOf mid) bytes maxL none (wsOf mid) ({ frames := d, cells := cmOf mid, slots := smOf mid, locals := 64 * d } : Room) (cmOf mid) (smOf mid) n ∧ (yOf mid).name = "<init>" ∧ (Cond.instanceMethod (yOf mid)).before args s = true) (hd : decode cc pc = .ok (.invokespecial index, 3)) : ev_Sim p l e R s m args below meth c Q nL D cl A s.heap ex ad0 tyOf pc (ev_call (pc + 3) mid (n + 1) (cmOf mid) (smOf mid) cm sm (ev_recv i) E) := by
  refine ev_call_gen hE hcm hsm (fun H locs cells slots ls w tys h h' rv as vals rest hK hP hD hS hh hsz hv hlen hr hrest h1 h2 hM => ?_)
  obtain ⟨b, As, rfl, hcell⟩ := ev_recv_ok hr hc hK hP hh hv
  exact va_runI S hM cw ⟨ev_blind hX, ev_start hX hXs hA hK hP hD hS hh⟩ rfl (by simpa using hlen) hsz (by simp) (lv_room hrest) hd ⟨h1, h2⟩
theorem ev_callIN_ok {own host : String} {index mid n i cm sm maxL : Nat} {bytes : ByteArray} {Ts : List Cond} {r0 : vw_C} {E : ev_E} (S : CallFix p m c cc nL s args Ts own) (hE : ev_Snd l D cl A ex tyOf XT yOf wsOf cmOf smOf d E) (hcm : cm ≤ R.cells) (hsm : sm ≤ R.slots) (hX : ev_Xok A XT) (hXs : XT s) (hA : ∀ q, s.heap.size ≤ q → A q) (hc : cl[i]? = some r0)
    (cw : va_CN R s args own index (yOf mid) host bytes maxL none (wsOf mid) ({ frames := d, cells := cmOf mid, slots := smOf mid, locals := 64 * d } : Room) (cmOf mid) (smOf mid) n ∧ (yOf mid).name = "<init>" ∧ (Cond.instanceMethod (yOf mid)).before args s = true) (hd : decode cc pc = .ok (.invokespecial index, 3)) : ev_Sim p l e R s m args below meth c Q nL D cl A s.heap ex ad0 tyOf pc (ev_call (pc + 3) mid (n + 1) (cmOf mid) (smOf mid) cm sm (ev_recv i) E) := by
  refine ev_call_gen hE hcm hsm (fun H locs cells slots ls w tys h h' rv as vals rest hK hP hD hS hh hsz hv hlen hr hrest h1 h2 hM => ?_)
  obtain ⟨b, As, rfl, hcell⟩ := ev_recv_ok hr hc hK hP hh hv
  exact va_runIN S hM cw ⟨ev_blind hX, ev_start hX hXs hA hK hP hD hS hh⟩ rfl (by simpa using hlen) hsz (by simp) (lv_room hrest) hd ⟨h1, h2⟩
end EvG
/-- a method's end -/
theorem ev_end {l : Launch} {p : Program} {e : Env} {R : Room} {s : State} {m : MethodId} {args : Array Value} {below : List Frame} {meth : Method} {c : Code} {nL : Nat} {D : va_G} {cl : List vw_C} {A : Nat → Prop} {ex : Nat → Value} {tyOf : Nat → FieldType} {cc : ByteArray} {ret : Option FieldType} {ad : List Nat} {mc ms k pc : Nat} {rv : Option ev_V} {h' : ev_Hp} {stk : List ev_V} {L : List (Option ev_V)} {c1 n1 : Nat}
    (hx : p.tables.exec = Jvm.exec) (hb : c.code = cc) (hr : meth.sig.returnType = ret) (hlocks : meth.locks = false) (hst : ev_stop k cc pc ret) (ho : ev_out k stk h' = some (rv, h')) (h1 : c1 ≤ mc) (h2 : n1 ≤ ms) :
    ev_G p l e R s m args below meth c (MQ below (ev_Qo D cl A ex tyOf ad rv h') args s mc ms A) nL D cl A s.heap ex ad tyOf pc (stk, L, h', (c1, n1)) := by
  intro H locs ls lv sv ws tys hK hP hD hS hh hl hn hL hs
  refine W.widen (k := mc) (n := ms) h1 h2 ?_
  have post : ∀ (ov : Option Value) (t : State), ev_oR (ws.map Prod.fst) ex rv ov → t.heap = H → s.WarmedH t.vm → ev_Qo D cl A ex tyOf ad rv h' args s (.returned ov) t := fun ov t hov ht hW => ⟨⟨ov, ws, tys, rfl, hov, by rw [ht]; exact hP, va_K.moved hW.alike hK, hD, hh⟩, hS.F ht⟩
  match k, stk, hst, ho, hs with
  | 0, [], ⟨hd, hret⟩, ho, hs =>
    cases ho
    rw [show sv = [] from hs]
    exact W.vret hx hb (hr.trans hret) (fun t ht hW => post none t rfl ht hW) hS.2.2 hd hlocks
  | 1, [.inl v], ⟨hd, hret⟩, ho, ⟨w, r, e1, ⟨x, e2, hx1⟩, e3⟩ =>
    cases ho
    rw [e1, e2, show r = [] from e3]
    exact W.iret hx hb (hr.trans hret) (fun t ht hW => post (some (.int x)) t ⟨_, rfl, ⟨x, rfl, hx1⟩⟩ ht hW) hS.2.2 hd hlocks
  | 2, [.inl (lo, hi)], ⟨hd, hret⟩, ho, ⟨w, r, e1, ⟨x, e2, hx1, hx2⟩, e3⟩ =>
    obtain ⟨a1, a2, ho2⟩ := ev_bt ho
    rw [decide_eq_true_eq] at a1 a2
    cases ho2
    rw [e1, e2, show r = [] from e3]
    have hn9 := (ev_fit_ok (ad := ws.map Prod.fst) (ex := ex) (ty := .boolean) (v := .inl (lo, hi)) (w := .int x) (by show (decide (0 ≤ lo) && decide (hi ≤ 1)) = true; rw [decide_eq_true a1, decide_eq_true a2]; rfl) ⟨x, rfl, hx1, hx2⟩).1
    exact W.zret hx hb (hr.trans hret) hn9 (fun t ht hW => post (some (.int x)) t ⟨_, rfl, ⟨x, rfl, hx1, hx2⟩⟩ ht hW) hS.2.2 hd hlocks
  | 3, [.inl (lo, hi)], ⟨hd, hret⟩, ho, ⟨w, r, e1, ⟨x, e2, hx1, hx2⟩, e3⟩ =>
    obtain ⟨a1, a2, ho2⟩ := ev_bt ho
    rw [decide_eq_true_eq] at a1 a2
    cases ho2
    rw [e1, e2, show r = [] from e3]
    obtain ⟨q, hq, rfl⟩ : ∃ q : Nat, q < 65536 ∧ x = nI q := by
      refine ⟨x.toInt.toNat, by omega, Int32.toInt_inj.mp ?_⟩
      rw [nI_toInt (by omega)]
      omega
    exact W.zret hx hb (hr.trans hret) (pk_charN hq).1 (fun t ht hW => post (some (.int (nI q))) t ⟨_, rfl, ⟨nI q, rfl, hx1, hx2⟩⟩ ht hW) hS.2.2 hd hlocks
  | 4, [.inl (lo, hi)], ⟨hd, hret⟩, ho, ⟨w, r, e1, ⟨x, e2, hx1, hx2⟩, e3⟩ =>
    obtain ⟨a1, a2, ho2⟩ := ev_bt ho
    rw [decide_eq_true_eq] at a1 a2
    cases ho2
    rw [e1, e2, show r = [] from e3]
    have hb9 : x.toInt8.toInt32 = x := by
      apply Int32.toInt_inj.mp
      rw [ev_b8_ok]
      unfold ev_b8
      rw [Int.bmod_def]
      split <;> omega
    have hn9 : narrow .byte (.int x) = .int x := by
      have h9 := pk_nb x
      rw [hb9] at h9
      exact h9
    exact W.zret hx hb (hr.trans hret) hn9 (fun t ht hW => post (some (.int x)) t ⟨_, rfl, ⟨x, rfl, hx1, hx2⟩⟩ ht hW) hS.2.2 hd hlocks
  | 5, [.inr (.inr v)], ⟨hd, rt, hret, hrt⟩, ho, ⟨w, r, e1, e2, e3⟩ =>
    cases ho
    rw [e1, show r = [] from e3]
    have hv9 : w = .null ∨ ∃ a, w = .ref a := by
      rcases ev_rf e2 with ⟨q, -⟩ | ⟨a, q, -⟩
      · exact Or.inl q
      · exact Or.inr ⟨a, q⟩
    exact W.aret hx hb (hr.trans hret) hrt hv9 (fun t ht hW => post (some w) t ⟨_, rfl, e2⟩ ht hW) hS.2.2 hd hlocks
theorem ev_out_h {k : Nat} {stk : List ev_V} {h1 h2 : ev_Hp} {rv : Option ev_V} (h : ev_out k stk h1 = some (rv, h2)) : h2 = h1 := by
  match k, stk, h with
  | 0, [], h => cases h; rfl
  | 1, [.inl v], h => cases h; rfl
  | 2, [.inl (lo, hi)], h =>
    obtain ⟨a1, a2, h9⟩ := ev_bt h
    cases h9
    rfl
  | 3, [.inl (lo, hi)], h =>
    obtain ⟨a1, a2, h9⟩ := ev_bt h
    cases h9
    rfl
  | 4, [.inl (lo, hi)], h =>
    obtain ⟨a1, a2, h9⟩ := ev_bt h
    cases h9
    rfl
  | 5, [.inr (.inr v)], h => cases h; rfl
/-- EVERY RUN OF THE EVALUATOR IS A RUN OF THE MACHINE -/
theorem ev_M_ok {l : Launch} {D : va_G} {cl : List vw_C} {A : Nat → Prop} {ex : Nat → Value} {tyOf : Nat → FieldType} {XT : State → Prop} {yOf : Nat → MethodName} {bOf : Nat → ByteArray} {nLOf : Nat → Nat} {retOf : Nat → Option FieldType} {wsOf : Nat → List Cond} {cmOf smOf : Nat → Nat} {mc : Nat → ev_E → Nat → Option (ev_I ⊕ Nat)} {fuel : Nat} (hT : ev_Tab l D cl A ex tyOf XT yOf bOf nLOf retOf wsOf cmOf smOf mc) :
    ∀ d : Nat, ev_Snd l D cl A ex tyOf XT yOf wsOf cmOf smOf d (ev_M mc nLOf cmOf smOf fuel d)
  | 0 => fun mid as h rv h' hE => by cases hE
  | d + 1 => by
    intro mid as h rv h' hE w tys vals hv
    have ih := ev_M_ok hT (fuel := fuel) d
    simp only [ev_M] at hE
    split at hE
    · next k pc1 stk L h1 c1 n1 hrun =>
      obtain ⟨a1, hE9⟩ := ev_bt1 hE
      clear hE
      rw [Bool.and_eq_true, Bool.and_eq_true] at a1
      obtain ⟨a1, a2, a3⟩ := a1
      have eh := ev_out_h hE9
      subst eh
      have hlay : (ev_lay as).length ≤ nLOf mid := Nat.le_of_ble_eq_true a1
      have hex : ∃ E pc x, mc mid E pc = some x := by
        cases fuel with
        | zero => cases hrun
        | succ f =>
          simp only [ev_run] at hrun
          split at hrun
          · next g hg => exact ⟨_, _, _, hg⟩
          · next g hg => exact ⟨_, _, _, hg⟩
          · cases hrun
      obtain ⟨hpl, ⟨ws', hws⟩, htab⟩ := hT mid hex
      refine Met.ofW (cc := bOf mid) (maxL := nLOf mid) (ret := retOf mid) hpl hws ?_
      intro p e s m args below meth c s₁ B hml hv0
      obtain ⟨rfl, hP, hK, hD, hA, hh, hXs⟩ := hv0
      have hts := atoms_spec (ws := wsOf mid) B.pre
      have hown : s.vm.findClass (yOf mid).cls = some m.cls := findClass_of_methodNamed B.named
      have hname : meth.name = (yOf mid).name := (name_of_methodNamed B.named B.method).1
      obtain ⟨hsim, hstop⟩ := htab d _ ih p e _ s m vals.toArray below meth c (MQ below (ev_Qo D cl A ex tyOf (w.map Prod.fst) rv h') vals.toArray s (cmOf mid) (smOf mid) A) (w.map Prod.fst) B.exec B.bytes hml hname hown hts hXs hA rfl
      obtain ⟨hk, hgo⟩ := ev_run_ok (code := mc mid (ev_M mc nLOf cmOf smOf fuel d)) hsim fuel 0 _ k pc1 _ hrun
      have hend := ev_end (l := l) (p := p) (e := e) (R := ({ frames := d + 1, cells := cmOf mid, slots := smOf mid, locals := 64 * (d + 1) } : Room)) (s := s) (m := m) (args := vals.toArray) (below := below) (meth := meth) (c := c) (nL := nLOf mid) (D := D) (cl := cl) (A := A) (ex := ex) (tyOf := tyOf) (ad := w.map Prod.fst) (L := L) B.exec B.bytes B.returns B.notSynchronized (hstop pc1 k hk) hE9 (Nat.le_of_ble_eq_true a2) (Nat.le_of_ble_eq_true a3)
      have g0 := hgo hend
      have hl := lv_entry vals (n := nLOf mid) (by rw [ev_lay_len hv]; exact hlay)
      rw [lg_entry_eq]
      exact g0 s.heap [] _ _ [] w tys hK hP hD va_S.rf ⟨hh.1, hh.2.1, fun _ _ z => z, hh.2.2.2⟩ hl (by unfold ev_ent; rw [List.length_append, List.length_replicate]; omega) (ev_ent_ok hv) rfl
    · cases hE
end
section
/-! THINGS OUTSIDE OF THE WORLD; comparisons of references; switches. -/
def ev_getx (n : Nat) (tb : Nat → Option ev_V) : ev_I := fun st => match st with
  | (.inr (.inr (some (.inr j))) :: stk, r) => match tb j with
    | some v => some (n, (v :: stk, r))
    | none => none
  | _ => none
def ev_alenx (n : Nat) (tb : Nat → Option Nat) : ev_I := fun st => match st with
  | (.inr (.inr (some (.inr j))) :: stk, r) => match tb j with
    | some len => some (n, (.inl (.ofNat len, .ofNat len) :: stk, r))
    | none => none
  | _ => none
def ev_aldx (n : Nat) (tb : Nat → Nat → Option Int) : ev_I := fun st => match st with
  | (.inl (.ofNat i1, i2) :: .inr (.inr (some (.inr j))) :: stk, r) => match tb j i1 with
    | some z => cond (decide (Int.ofNat i1 = i2)) (some (n, (.inl (z, z) :: stk, r))) none
    | none => none
  | _ => none
def ev_acmp (b : Bool) (n t : Nat) : ev_I := fun st => match st with
  | (.inr (.inr none) :: .inr (.inr none) :: stk, r) => some (cond b t n, (stk, r))
  | (.inr (.inr (some (.inl _))) :: .inr (.inr none) :: stk, r) => some (cond b n t, (stk, r))
  | (.inr (.inr none) :: .inr (.inr (some (.inl _))) :: stk, r) => some (cond b n t, (stk, r))
  | (.inr (.inr (some (.inl j))) :: .inr (.inr (some (.inl k))) :: stk, r) => some (cond (Nat.beq j k) (cond b t n) (cond b n t), (stk, r))
  | _ => none
/-- a known int chooses -/
def ev_tsw (lo : Int) (ts : List Nat) (dflt : Nat) : ev_I := fun st => match st with
  | (.inl (a1, a2) :: stk, r) => cond (decide (a1 = a2)) (match a1 - lo with
    | .ofNat i => (match ev_lg ts i with
      | some t => some (t, (stk, r))
      | none => some (dflt, (stk, r)))
    | .negSucc _ => some (dflt, (stk, r))) none
  | _ => none
def ev_lsf (z : Int) (dflt : Nat) : List (Int × Nat) → Nat
  | [] => dflt
  | (k, t) :: l => cond (decide (z = k)) t (ev_lsf z dflt l)
def ev_lsw (ps : List (Int × Nat)) (dflt : Nat) : ev_I := fun st => match st with
  | (.inl (a1, a2) :: stk, r) => cond (decide (a1 = a2)) (ev_fN (ev_lsf a1 dflt ps) (fun t => some (t, (stk, r)))) none
  | _ => none
/-- an array of arrays: an array of the kind ta, or null, to it -/
def ev_asta (n tc ta : Nat) : ev_I := fun st => match st with
  | (.inr (.inr v) :: .inl (.ofNat i1, i2) :: .inr (.inr (some (.inl k))) :: stk, L, h, r) => match ev_tg 10 h.2 k with
    | some (.inr (tc', len, els)) => cond (decide (Int.ofNat i1 = i2) && (Nat.beq tc' tc && (match v with
        | some (.inl j) => (match ev_tg 10 h.2 j with
          | some (.inr (ta', _, _)) => Nat.beq ta' ta
          | _ => false)
        | _ => false))) (ev_ls els i1 (.inr (.inr v)) (fun els' => ev_ts 10 h.2 k (some (.inr (tc', len, els'))) (fun t' => some (n, (stk, L, (h.1, t'), r)))) none) none
    | _ => none
  | _ => none
/-- a method's code in rows of sixteen -/
def ev_code (t : List (List (Option (ev_I ⊕ Nat)))) (pc : Nat) : Option (ev_I ⊕ Nat) := match ev_lg t (pc / 16) with
  | some r => (match ev_lg r (pc % 16) with
    | some x => x
    | none => none)
  | none => none
def ev_oi (f : ev_I) : Option (ev_I ⊕ Nat) := some (.inl f)
def ev_os (k : Nat) : Option (ev_I ⊕ Nat) := some (.inr k)
def ev_no : Option (ev_I ⊕ Nat) := none
def ev_shr0 (n : Nat) : ev_I := fun st => match st with
  | (.inl (b1, b2) :: .inl a :: stk, r) => cond (decide (b1 = 0) && decide (b2 = 0)) (some (n, (.inl a :: stk, r))) none
  | _ => none
end
section
/-! THINGS OUTSIDE: their rows; literals; comparisons of references; switches. -/
section EvH
variable {p : Program} {l : Launch} {e : Env} {R : Room} {s : State} {m : MethodId} {args : Array Value} {below : List Frame} {meth : Method} {c : Code} {Q : State → Prop} {nL : Nat} {D : va_G} {cl : List vw_C} {A : Nat → Prop} {H0 : Heap} {ex : Nat → Value} {ad0 : List Nat} {tyOf : Nat → FieldType}
variable {cc : ByteArray} {pc : Nat} {XT : State → Prop} {yOf : Nat → MethodName} {wsOf : Nat → List Cond} {cmOf smOf : Nat → Nat} {d : Nat}
/-- int constant by a wide index -/
theorem ev_ldcw_ok (hx : p.tables.exec = Jvm.exec) (hb : c.code = cc) {own : String} {index : Nat} {z : Int} {x : Int32} (ho : s.vm.findClass own = some m.cls) (hc : (Jvm.Cond.constant own index x).before args s = true) (hd : decode cc pc = .ok (.ldc_w index, 3)) (hz : x.toInt = z) : ev_Sim p l e R s m args below meth c Q nL D cl A H0 ex ad0 tyOf pc (ev_push (pc + 3) (ev_int z)) := by
  intro st pc' st' h g
  obtain ⟨stk, r⟩ := st
  cases h
  intro H locs ls lv sv ws tys hK hP hD hS hh hl hn hL hs
  exact lv_ldcw hx hb ho hc hd (g H locs ls lv (.int x :: sv) ws tys hK hP hD hS hh hl hn hL ⟨_, _, rfl, ⟨x, rfl, by rw [hz]; exact Int.le_refl _, by rw [hz]; exact Int.le_refl _⟩, hs⟩)
/-- a literal -/
theorem ev_ldcs_ok (hx : p.tables.exec = Jvm.exec) (hb : c.code = cc) {own tx : String} {index q j : Nat} (ho : s.vm.findClass own = some m.cls) (hZ : vk_R own index tx q s) (hj : ex j = .ref q) (hd : decode cc pc = .ok (.ldc index, 2)) : ev_Sim p l e R s m args below meth c Q nL D cl A H0 ex ad0 tyOf pc (ev_push (pc + 2) (ev_ext j)) := by
  intro st pc' st' h g
  obtain ⟨stk, r⟩ := st
  cases h
  intro H locs ls lv sv ws tys hK hP hD hS hh hl hn hL hs
  exact va_ldcS hx hb ho hZ hd (g H locs ls lv (.ref q :: sv) ws tys hK hP hD hS hh hl hn hL ⟨_, _, rfl, ⟨hj.symm, Or.inr ⟨q, rfl⟩⟩, hs⟩)
/-- a static field that nobody writes -/
theorem ev_gets_ok (hx : p.tables.exec = Jvm.exec) (hb : c.code = cc) {C n dd own ref : String} {v : Value} {u : ev_V} {index : Nat} (hZ : va_Z C n dd v A s s.heap) (ho : s.vm.findClass own = some m.cls) (hlink : (Cond.fieldLink own index ref n dd).before args s = true) (hsame : ∀ x, s.fieldFound? C n dd = some x → s.fieldFound? ref n dd = some x) (hu : ∀ ad : List Nat, ev_vR ad ex u v) (hd : decode cc pc = .ok (.getstatic index, 3)) : ev_Sim p l e R s m args below meth c Q nL D cl A s.heap ex ad0 tyOf pc (ev_push (pc + 3) u) := by
  intro st pc' st' h g
  obtain ⟨stk, r⟩ := st
  cases h
  intro H locs ls lv sv ws tys hK hP hD hS hh hl hn hL hs
  exact va_gets hx hb hZ hS ho hlink hsame hd (g H locs ls lv (v :: sv) ws tys hK hP hD hS hh hl hn hL ⟨_, _, rfl, hu _, hs⟩)
/-- a field of a thing outside -/
theorem ev_getx_ok (hx : p.tables.exec = Jvm.exec) (hb : c.code = cc) {o n dd own ref : String} {index : Nat} {tb : Nat → Option ev_V} (htb : ∀ (j : Nat) (u : ev_V), tb j = some u → ∀ q : Nat, ex j = .ref q → ∃ v, va_OF o n dd v q A s s.heap ∧ ∀ ad : List Nat, ev_vR ad ex u v) (hnn : ∀ (j : Nat) (u : ev_V), tb j = some u → ¬ ex j = .null) (ho : s.vm.findClass own = some m.cls) (hlink : (Cond.fieldLink own index ref n dd).before args s = true) (hsame : ∀ x, s.fieldFound? o n dd = some x → s.fieldFound? ref n dd = some x) (hd : decode cc pc = .ok (.getfield index, 3)) : ev_Sim p l e R s m args below meth c Q nL D cl A s.heap ex ad0 tyOf pc (ev_getx (pc + 3) tb) := by
  intro st pc' st' h g
  obtain ⟨stk, r⟩ := st
  match stk, h with
  | .inr (.inr (some (.inr j))) :: stk, h =>
    simp only [ev_getx] at h
    split at h
    · next u hu =>
      cases h
      intro H locs ls lv sv ws tys hK hP hD hS hh hl hn hL hs
      obtain ⟨w, q, rfl, ⟨hw, hw2⟩, hq⟩ := hs
      rcases hw2 with rfl | ⟨a, rfl⟩
      · exact absurd hw.symm (hnn j u hu)
      · obtain ⟨v, hv, hr⟩ := htb j u hu a hw.symm
        exact vk_getf hx hb hv hS ho hlink hsame hd (g H locs ls lv (v :: q) ws tys hK hP hD hS hh hl hn hL ⟨_, _, rfl, hr _, hq⟩)
    · cases h
theorem ev_alenx_ok (hx : p.tables.exec = Jvm.exec) (hb : c.code = cc) {ty : FieldType} {tb : Nat → Option Nat} (htb : ∀ j len : Nat, tb j = some len → len < 2147483648 ∧ ∃ q : Nat, ex j = .ref q ∧ ∃ f, va_T ty q len f A s s.heap) (hd : decode cc pc = .ok (.arraylength, 1)) : ev_Sim p l e R s m args below meth c Q nL D cl A s.heap ex ad0 tyOf pc (ev_alenx (pc + 1) tb) := by
  intro st pc' st' h g
  obtain ⟨stk, r⟩ := st
  match stk, h with
  | .inr (.inr (some (.inr j))) :: stk, h =>
    simp only [ev_alenx] at h
    split at h
    · next len hu =>
      cases h
      intro H locs ls lv sv ws tys hK hP hD hS hh hl hn hL hs
      obtain ⟨w, q, rfl, ⟨hw, -⟩, hq⟩ := hs
      obtain ⟨hlt, a, ha, f, hT⟩ := htb j len hu
      rw [hw, ha]
      have e9 : (Int32.ofNat len).toInt = Int.ofNat len := nI_toInt hlt
      exact va_tlen hx hb hT hS rfl hd (g H locs ls lv (.int (Int32.ofNat len) :: q) ws tys hK hP hD hS hh hl hn hL ⟨_, _, rfl, ⟨_, rfl, by rw [e9]; exact Int.le_refl _, by rw [e9]; exact Int.le_refl _⟩, hq⟩)
    · cases h
theorem ev_aldx_ok (hx : p.tables.exec = Jvm.exec) (hb : c.code = cc) {tb : Nat → Nat → Option Int} (htb : ∀ (j i : Nat) (z : Int), tb j i = some z → ∃ q : Nat, ex j = .ref q ∧ ∃ N f, va_T .byte q N f A s s.heap ∧ i < N ∧ ∃ x : Int32, f i = .int x ∧ x.toInt = z) (hd : decode cc pc = .ok (.baload, 1)) : ev_Sim p l e R s m args below meth c Q nL D cl A s.heap ex ad0 tyOf pc (ev_aldx (pc + 1) tb) := by
  intro st pc' st' h g
  obtain ⟨stk, r⟩ := st
  match stk, h with
  | .inl (.ofNat i1, i2) :: .inr (.inr (some (.inr j))) :: stk, h =>
    simp only [ev_aldx] at h
    split at h
    · next z hu =>
      obtain ⟨a1, h9⟩ := ev_bt1 h
      clear h
      rw [decide_eq_true_eq] at a1
      subst a1
      cases h9
      intro H locs ls lv sv ws tys hK hP hD hS hh hl hn hL hs
      obtain ⟨w, r1, rfl, ⟨y, rfl, hy1, hy2⟩, w2, q, rfl, ⟨hw, -⟩, hq⟩ := hs
      obtain ⟨a, ha, N, f, hT, hi, x, hf, hz⟩ := htb j i1 z hu
      obtain ⟨f1, f2⟩ := ev_ix hy1 hy2
      rw [hw, ha]
      refine va_tb hx hb hT hS (f2 N hi) (v := .int x) (by rw [f1]; exact hf) hd (g H locs ls lv (.int x :: q) ws tys hK hP hD hS hh hl hn hL ⟨_, _, rfl, ⟨x, rfl, by rw [hz]; exact Int.le_refl _, by rw [hz]; exact Int.le_refl _⟩, hq⟩)
    · cases h
/-- references of the world are one where their places are -/
theorem ev_same {ws : va_W} {i j a b : Nat} {e1 e2 : va_E} (hD : va_D A ws) (hi : ws[i]? = some (a, e1)) (hj : ws[j]? = some (b, e2)) : a = b ↔ i = j :=
  ⟨fun q => hD.1 i j _ _ hi hj q, fun q => by subst q; rw [hi] at hj; cases hj; rfl⟩
theorem ev_acmp_gen {bb : Bool} {n t : Nat} (row : ∀ (H : Heap) (locs : List Loc) (cells slots : Nat) (ls : Array Slot) (rest : List Value) (rx ry : Option Nat), (rx = ry → W p l e R s m args below meth c H locs cells slots Q (F0 m (cond bb t n) ls rest)) → (¬ rx = ry → W p l e R s m args below meth c H locs cells slots Q (F0 m (cond bb n t) ls rest)) → W p l e R s m args below meth c H locs cells slots Q (F0 m pc ls (va_rf ry :: va_rf rx :: rest))) : ev_Sim p l e R s m args below meth c Q nL D cl A H0 ex ad0 tyOf pc (ev_acmp bb n t) := by
  intro st pc' st' h g
  obtain ⟨stk, r⟩ := st
  match stk, h with
  | .inr (.inr none) :: .inr (.inr none) :: stk, h =>
    cases h
    intro H locs ls lv sv ws tys hK hP hD hS hh hl hn hL hs
    obtain ⟨w, r1, rfl, hw, w2, q, rfl, hw2, hq⟩ := hs
    rw [show w = va_rf none from hw, show w2 = va_rf none from hw2]
    exact row H locs _ _ ls q none none (fun _ => g H locs ls lv q ws tys hK hP hD hS hh hl hn hL hq) (fun z => absurd rfl z)
  | .inr (.inr (some (.inl j))) :: .inr (.inr none) :: stk, h =>
    cases h
    intro H locs ls lv sv ws tys hK hP hD hS hh hl hn hL hs
    obtain ⟨w, r1, rfl, hw, w2, q, rfl, hw2, hq⟩ := hs
    obtain ⟨a, -, rfl⟩ := hw
    rw [show w2 = va_rf none from hw2]
    exact row H locs _ _ ls q none (some a) (fun z => nomatch z) (fun _ => g H locs ls lv q ws tys hK hP hD hS hh hl hn hL hq)
  | .inr (.inr none) :: .inr (.inr (some (.inl j))) :: stk, h =>
    cases h
    intro H locs ls lv sv ws tys hK hP hD hS hh hl hn hL hs
    obtain ⟨w, r1, rfl, hw, w2, q, rfl, hw2, hq⟩ := hs
    obtain ⟨a, -, rfl⟩ := hw2
    rw [show w = va_rf none from hw]
    exact row H locs _ _ ls q (some a) none (fun z => nomatch z) (fun _ => g H locs ls lv q ws tys hK hP hD hS hh hl hn hL hq)
  | .inr (.inr (some (.inl j))) :: .inr (.inr (some (.inl k))) :: stk, h =>
    cases h
    intro H locs ls lv sv ws tys hK hP hD hS hh hl hn hL hs
    obtain ⟨w, r1, rfl, hw, w2, q, rfl, hw2, hq⟩ := hs
    obtain ⟨a, e1, hj, rfl⟩ := ev_place hw
    obtain ⟨b, e2, hk, rfl⟩ := ev_place hw2
    have hab := ev_same hD hk hj
    refine row H locs _ _ ls q (some b) (some a) (fun z => ?_) (fun z => ?_)
    · have hjk : Nat.beq j k = true := by rw [(hab.mp (Option.some.inj z)).symm]; exact Nat.beq_refl _
      have g2 := g H locs ls lv q ws tys hK hP hD hS hh hl hn hL hq
      rw [hjk] at g2
      exact g2
    · have hjk : Nat.beq j k = false := by
        cases hb9 : Nat.beq j k with
        | false => rfl
        | true => exact absurd (congrArg some (hab.mpr (Nat.eq_of_beq_eq_true hb9).symm)) z
      have g2 := g H locs ls lv q ws tys hK hP hD hS hh hl hn hL hq
      rw [hjk] at g2
      exact g2
theorem ev_acmp_eq_ok (hx : p.tables.exec = Jvm.exec) (hb : c.code = cc) {off : Int} {t : Nat} (hd : decode cc pc = .ok (.if_acmp .eq off, 3)) (ht : (pc : Int) + off = (t : Int)) : ev_Sim p l e R s m args below meth c Q nL D cl A H0 ex ad0 tyOf pc (ev_acmp true (pc + 3) t) :=
  ev_acmp_gen (fun _ _ _ _ _ _ _ _ kt kf => lv_acmp_eq hx hb hd ht kt kf)
theorem ev_acmp_ne_ok (hx : p.tables.exec = Jvm.exec) (hb : c.code = cc) {off : Int} {t : Nat} (hd : decode cc pc = .ok (.if_acmp .ne off, 3)) (ht : (pc : Int) + off = (t : Int)) : ev_Sim p l e R s m args below meth c Q nL D cl A H0 ex ad0 tyOf pc (ev_acmp false (pc + 3) t) :=
  ev_acmp_gen (fun _ _ _ _ _ _ _ _ kt kf => lv_acmp_ne hx hb hd ht kf kt)
/-- a call on a thing outside -/
theorem ev_callVx_ok {own C : String} {index mid n cm sm maxL : Nat} {bytes : ByteArray} {ret : Option FieldType} {Ts : List Cond} {E : ev_E} {rc : ev_Hp → List ev_V → Bool} (S : CallFix p m c cc nL s args Ts own) (hE : ev_Snd l D cl A ex tyOf XT yOf wsOf cmOf smOf d E) (hcm : cm ≤ R.cells) (hsm : sm ≤ R.slots) (hX : ev_Xok A XT) (hXs : XT s) (hA : ∀ q, s.heap.size ≤ q → A q)
    (hrc : ∀ (h : ev_Hp) (as : List ev_V), rc h as = true → ∃ j as', as = .inr (.inr (some (.inr j))) :: as' ∧ ∃ b, ex j = .ref b ∧ ∀ (H : Heap) (locs : List Loc), va_S A s.heap H locs → ∃ cell : Cell, H[b]? = some cell ∧ cell.vm.isStatics = false ∧ s.vm.findClass C = some cell.cls)
    (cw : CallW R s args own C index (yOf mid) bytes maxL ret (wsOf mid) ({ frames := d, cells := cmOf mid, slots := smOf mid, locals := 64 * d } : Room) (cmOf mid) (smOf mid) n) (hd : decode cc pc = .ok (.invokevirtual index, 3)) : ev_Sim p l e R s m args below meth c Q nL D cl A s.heap ex ad0 tyOf pc (ev_call (pc + 3) mid (n + 1) (cmOf mid) (smOf mid) cm sm rc E) := by
  refine ev_call_gen hE hcm hsm (fun H locs cells slots ls w tys h h' rv as vals rest hK hP hD hS hh hsz hv hlen hr hrest h1 h2 hM => ?_)
  obtain ⟨j, as', rfl, b, hj, hcell⟩ := hrc h as hr
  obtain ⟨w0, r0, rfl, ⟨hw, -⟩, hv2⟩ := hv
  rw [hj] at hw
  subst hw
  exact va_runV S hM cw ⟨ev_blind hX, hcell H locs hS, ev_start hX hXs hA hK hP hD hS hh⟩ rfl (by simpa using hlen) hsz (by simp) (lv_room hrest) hd ⟨h1, h2⟩
/-- a number shifted by 0 -/
theorem ev_shr0_ok (hx : p.tables.exec = Jvm.exec) (hb : c.code = cc) (hd : decode cc pc = .ok (.ishr, 1)) : ev_Sim p l e R s m args below meth c Q nL D cl A H0 ex ad0 tyOf pc (ev_shr0 (pc + 1)) := by
  intro st pc' st' h g
  obtain ⟨stk, r⟩ := st
  match stk, h with
  | .inl (b1, b2) :: .inl (a1, a2) :: stk, h =>
    simp only [ev_shr0] at h
    obtain ⟨q1, q2, h9⟩ := ev_bt h
    clear h
    rw [decide_eq_true_eq] at q1 q2
    cases h9
    intro H locs ls lv sv ws tys hK hP hD hS hh hl hn hL hs
    obtain ⟨w, r1, rfl, ⟨y, rfl, hy1, hy2⟩, w2, r2, rfl, ⟨x, rfl, hx1, hx2⟩, hs⟩ := hs
    have ey : y = 0 := Int32.toInt_inj.mp (show y.toInt = 0 by omega)
    subst ey
    have e9 : x >>> ((0 : Int32) &&& 31) = x := by simp
    refine lv_ishr hx hb hd ?_
    rw [e9]
    exact g H locs ls lv (.int x :: r2) ws tys hK hP hD hS hh hl hn hL ⟨_, _, rfl, ⟨x, rfl, hx1, hx2⟩, hs⟩
/-- tableswitch: the places by number, and the default -/
theorem ev_tsw_ok (hx : p.tables.exec = Jvm.exec) (hb : c.code = cc) {dflt lo hi : Int} {offs : Array Int} {len dt : Nat} {ts : List Nat} (hd : decode cc pc = .ok (.tableswitch dflt lo hi offs, len)) (hdt : (pc : Int) + dflt = (dt : Int)) (hn9 : (ts.length : Int) = hi - lo + 1) (hts : ∀ i t : Nat, ts[i]? = some t → ∃ off, offs[i]? = some off ∧ (pc : Int) + off = (t : Int)) : ev_Sim p l e R s m args below meth c Q nL D cl A H0 ex ad0 tyOf pc (ev_tsw lo ts dt) := by
  intro st pc' st' h g
  obtain ⟨stk, r⟩ := st
  match stk, h with
  | .inl (a1, a2) :: stk, h =>
    simp only [ev_tsw, ev_lg_eq] at h
    obtain ⟨q1, h9⟩ := ev_bt1 h
    clear h
    rw [decide_eq_true_eq] at q1
    subst q1
    intro H locs ls lv sv ws tys hK hP hD hS hh hl hn hL hs
    obtain ⟨w2, r2, rfl, ⟨x, rfl, hx1, hx2⟩, hs⟩ := hs
    have ex9 : x.toInt = a1 := Int.le_antisymm hx2 hx1
    split at h9
    · next i hi =>
      split at h9
      · next t ht =>
        cases h9
        obtain ⟨off, ho, hoff⟩ := hts i pc' ht
        have hlt : i < ts.length := (List.getElem?_eq_some_iff.mp ht).1
        have hi2 : a1 - lo = (i : Int) := hi
        refine lv_tableIn hx hb hd (by omega) (by omega) (by rw [ex9, hi2]; exact ho) hoff (g H locs ls lv r2 ws tys hK hP hD hS hh hl hn hL hs)
      · next ht =>
        cases h9
        have hge : ts.length ≤ i := by simpa using ht
        have hi2 : a1 - lo = (i : Int) := hi
        exact lv_tableOut hx hb hd (Or.inr (by omega)) hdt (g H locs ls lv r2 ws tys hK hP hD hS hh hl hn hL hs)
    · next i hi =>
      cases h9
      have hi2 : a1 - lo = Int.negSucc i := hi
      exact lv_tableOut hx hb hd (Or.inl (by omega)) hdt (g H locs ls lv r2 ws tys hK hP hD hS hh hl hn hL hs)
theorem ev_lsf_ok {z dflt pcz : Int} {dt : Nat} (hdt : pcz + dflt = (dt : Int)) : ∀ {ps : List (Int × Int)} {qs : List (Int × Nat)}, ps.length = qs.length → (∀ (i : Nat) (k : Int) (t : Nat), qs[i]? = some (k, t) → ∃ off, ps[i]? = some (k, off) ∧ pcz + off = (t : Int)) → pcz + Op.lookupswitch.offset ps dflt z = ((ev_lsf z dt qs : Nat) : Int)
  | [], [], _, _ => by rw [show ev_lsf z dt [] = dt from rfl, ← hdt]; rfl
  | (k, off) :: ps, (k2, t) :: qs, hlen, h => by
    obtain ⟨off2, h1, h2⟩ := h 0 k2 t rfl
    have h1 : some (k, off) = some (k2, off2) := h1
    cases h1
    rw [Op.lookupswitch.offset_cons]
    show _ = ((cond (decide (z = k)) t (ev_lsf z dt qs) : Nat) : Int)
    by_cases hz : z = k
    · rw [if_pos (by first | exact hz | exact hz.symm), decide_eq_true hz]
      exact h2
    · rw [if_neg (by first | exact hz | exact fun q => hz q.symm), decide_eq_false hz]
      exact ev_lsf_ok hdt (by simpa using hlen) (fun i k t hi => by simpa using h (i + 1) k t (by simpa using hi))
theorem ev_lsw_ok (hx : p.tables.exec = Jvm.exec) (hb : c.code = cc) {dflt : Int} {ps : Array (Int × Int)} {len dt : Nat} {qs : List (Int × Nat)} (hd : decode cc pc = .ok (.lookupswitch dflt ps, len)) (hp : (ps.toList.zip (ps.toList.drop 1)).all (fun (a, next) => a.1 < next.1) = true) (hdt : (pc : Int) + dflt = (dt : Int)) (hlen : ps.toList.length = qs.length) (hqs : ∀ (i : Nat) (k : Int) (t : Nat), qs[i]? = some (k, t) → ∃ off, ps.toList[i]? = some (k, off) ∧ (pc : Int) + off = (t : Int)) : ev_Sim p l e R s m args below meth c Q nL D cl A H0 ex ad0 tyOf pc (ev_lsw qs dt) := by
  intro st pc' st' h g
  obtain ⟨stk, r⟩ := st
  match stk, h with
  | .inl (a1, a2) :: stk, h =>
    simp only [ev_lsw, ev_fN_eq] at h
    obtain ⟨q1, h9⟩ := ev_bt1 h
    clear h
    rw [decide_eq_true_eq] at q1
    subst q1
    cases h9
    intro H locs ls lv sv ws tys hK hP hD hS hh hl hn hL hs
    obtain ⟨w2, r2, rfl, ⟨x, rfl, hx1, hx2⟩, hs⟩ := hs
    have ex9 : x.toInt = a1 := Int.le_antisymm hx2 hx1
    exact lv_lookup hx hb hd hp rfl (by rw [ex9]; exact ev_lsf_ok hdt hlen hqs) (g H locs ls lv r2 ws tys hK hP hD hS hh hl hn hL hs)
end EvH
end
section
/-! ARRAYS OF ARRAYS (of bytes: their stores; of any: new ones). -/
theorem ev_asta_i {st st' : ev_S} {n tc ta pc' : Nat} (h : ev_asta n tc ta st = some (pc', st')) : ∃ j i k stk len els n2 els2, st.1 = .inr (.inr (some (.inl j))) :: .inl (.ofNat i, .ofNat i) :: .inr (.inr (some (.inl k))) :: stk ∧ ev_tg 10 st.2.2.1.2 k = some (.inr (tc, len, els)) ∧ i < els.length ∧ pc' = n ∧ st' = (stk, st.2.1, (st.2.2.1.1, ev_tS 10 st.2.2.1.2 k (some (.inr (tc, len, els.set i (.inr (.inr (some (.inl j)))))))), st.2.2.2) ∧ ev_tg 10 st.2.2.1.2 j = some (.inr (ta, n2, els2)) := by
  obtain ⟨stk, L, hp, r⟩ := st
  match stk, h with
  | .inr (.inr v) :: .inl (.ofNat i1, i2) :: .inr (.inr (some (.inl k))) :: stk, h =>
    simp only [ev_asta] at h
    split at h
    · next tc' len els hq =>
      obtain ⟨a1, a2, h9⟩ := ev_bt h
      clear h
      rw [decide_eq_true_eq] at a1
      subst a1
      rw [Bool.and_eq_true] at a2
      obtain ⟨a2, a3⟩ := a2
      have e1 : tc' = tc := Nat.eq_of_beq_eq_true a2
      subst e1
      rw [ev_ls_eq, ev_ts_eq] at h9
      by_cases hi : i1 < els.length
      · rw [if_pos hi] at h9
        cases h9
        match v, a3 with
        | some (.inl j), a3 =>
          dsimp only at a3
          split at a3
          · next ta' n2 els2 hj =>
            have e2 : ta' = ta := Nat.eq_of_beq_eq_true a3
            subst e2
            exact ⟨j, i1, k, stk, len, els, n2, els2, rfl, hq, hi, rfl, rfl, hj⟩
          · cases a3
      · rw [if_neg hi] at h9
        cases h9
    · cases h
section EvJ
variable {p : Program} {l : Launch} {e : Env} {R : Room} {s : State} {m : MethodId} {args : Array Value} {below : List Frame} {meth : Method} {c : Code} {Q : State → Prop} {nL : Nat} {D : va_G} {cl : List vw_C} {A : Nat → Prop} {H0 : Heap} {ex : Nat → Value} {ad0 : List Nat} {tyOf : Nat → FieldType}
variable {cc : ByteArray} {pc : Nat}
theorem ev_newA_ok (hx : p.tables.exec = Jvm.exec) (hb : c.code = cc) {own : String} {index tc cm sm : Nat} {t : FieldType} (ho : s.vm.findClass own = some m.cls) (hcl : (Cond.classLink own index (FieldType.array t).toString).before args s = true) (hover : (Cond.arrayOver (.array t)).before args s = true) (htc : tyOf tc = .array t) (hA : ∀ q, H0.size ≤ q → A q) (hcm : cm ≤ R.cells) (hsm : sm ≤ R.slots) (hd : decode cc pc = .ok (.anewarray index, 3)) : ev_Sim p l e R s m args below meth c Q nL D cl A H0 ex ad0 tyOf pc (ev_newa (pc + 3) tc 2 cm sm) := by
  intro st pc' st' h g
  obtain ⟨N, stk, e1, hN, h1, h2, h3, rfl, rfl⟩ := ev_newa_i h
  intro H locs ls lv sv ws tys hK hP hD hS hh hl hn hL hs
  rw [e1] at hs
  obtain ⟨w, r, rfl, ⟨x, rfl, hx1, hx2⟩, hr⟩ := hs
  obtain ⟨f1, f2⟩ := ev_ix hx1 hx2
  have f3 := vp_in_iff.mp (f2 (N + 1) (Nat.lt_succ_self N))
  have h0 : ¬ x < 0 := fun z => by have := Int32.lt_iff_toInt_lt.mp z; rw [Int32.toInt_zero] at this; omega
  refine W.anewA hx hb ho hcl hover rfl hd rfl h0 (by rw [f1]; omega) (Nat.le_trans h2 hcm) (by rw [f1]; exact Nat.le_trans h3 hsm) fun cA kA comp q1 q2 q3 q4 => ?_
  rw [f1]
  generalize hH1 : H.push ({ cls := cA, slots := Array.replicate N .null, vm := .none } : Cell) = H1
  have z1 : H1.size = H.size + 1 := by rw [← hH1, Array.size_push]
  have e2 : H1[H.size]? = some (arrV cA N (fun _ => .null)) := by rw [← hH1, Array.getElem?_push_size, ← arrV_new]
  have o1 : ∀ q : Nat, q < H.size → H1[q]? = H[q]? := fun q hq => by rw [← hH1, Array.getElem?_push, if_neg (Nat.ne_of_lt hq)]
  have hAr : ArrOfT s cA (.array t) := fun N z => ⟨(fun k h => by cases h), kA, q2, comp, q3⟩
  have hk : ∀ (k : Nat) (x : Nat × va_E), ws[k]? = some x → H1[x.1]? = H[x.1]? := fun k x hx => o1 x.1 ((hP k x hx).lt)
  have hP1 : va_P D cl (ws ++ [(H.size, .inl (cA, N, .inr (.inr (.inr (.inr (fun _ => none))))))]) H1 := (hP.kept hk).app (fun k x hx => by
    have hz : k < 1 := (List.getElem?_eq_some_iff.mp hx).1
    rw [show k = 0 by omega] at hx
    cases hx
    show H1[H.size]? = some (vp_cell _ _)
    rw [vp_cell_q]
    exact e2)
  have hK1 : va_K D cl (tys ++ [(cA, .array t)]) s := ⟨hK.1, fun k x hx => by
    by_cases hl : k < tys.length
    · rw [List.getElem?_append_left hl] at hx
      exact hK.2 k x hx
    · rw [List.getElem?_append_right (by omega)] at hx
      have hz : k - tys.length < 1 := (List.getElem?_eq_some_iff.mp hx).1
      rw [show k - tys.length = 0 by omega] at hx
      cases hx
      exact ⟨hAr, q1⟩⟩
  refine g H1 locs ls lv (.ref H.size :: r) _ _ hK1 hP1 (hD.push hP rfl (hA _ hS.1)) ⟨Nat.le_trans hS.1 (by omega), fun x h1 h2 => (o1 x (Nat.lt_of_lt_of_le h1 hS.1)).trans (hS.2.1 x h1 h2), hS.2.2⟩ (ev_hR_push hh h1 ev_app ⟨cA, _, rfl, List.length_replicate, by omega, by rw [htc]; exact ev_one, ?_⟩) hl hn (ev_lR_mono ev_fst_push hL) ⟨_, _, rfl, ⟨H.size, ev_last hh.1, rfl⟩, ev_kR_mono ev_fst_push hr⟩
  rw [htc]
  exact ⟨_, rfl, fun j v hj => by rw [ev_rep hj]; exact rfl⟩
theorem ev_asta_ok (hx : p.tables.exec = Jvm.exec) (hb : c.code = cc) {tc ta : Nat} (hover : (Cond.arrayOver (.array .byte)).before args s = true) (htc : tyOf tc = .array .byte) (hta : tyOf ta = .byte) (hd : decode cc pc = .ok (.aastore, 1)) : ev_Sim p l e R s m args below meth c Q nL D cl A H0 ex ad0 tyOf pc (ev_asta (pc + 1) tc ta) := by
  intro st pc' st' h g
  obtain ⟨j, i, k, stk, len, els, n2, els2, e1, hq, hi, rfl, rfl, hj⟩ := ev_asta_i h
  intro H locs ls lv sv ws tys hK hP hD hS hh hl hn hL hs
  rw [e1] at hs
  obtain ⟨w, r, rfl, hw, w1, r1, rfl, ⟨y, rfl, hy1, hy2⟩, w2, r2, rfl, hw2, hr⟩ := hs
  obtain ⟨a, e2, hwk, rfl⟩ := ev_place hw2
  obtain ⟨cA, x9, rfl, hlen, hlt, ⟨t0, ht0⟩, hel⟩ := ev_cell hh hwk hq
  have ht1 := ht0
  rw [htc] at ht1 hel
  obtain ⟨f, rfl, hf⟩ := hel
  obtain ⟨f1, f2⟩ := ev_ix hy1 hy2
  obtain ⟨b, e3, hwj, rfl⟩ := ev_place hw
  obtain ⟨cB, xB, rfl, -, -, ⟨t2, ht2⟩, helB⟩ := ev_cell hh hwj hj
  rw [hta] at ht2 helB
  obtain ⟨fB, rfl, -⟩ := helB
  have hin : vp_in y len := f2 len (by rw [← hlen]; exact hi)
  have hlt2 : y.toNatClampNeg < len := Nat.not_le.mp fun q => hin (Or.inr q)
  have h0 : ¬ y < 0 := fun q => hin (Or.inl q)
  obtain ⟨comp, cO, kO, c1, -, c3, c4, c5⟩ := arrayOverA_spec (args := args) (first := s) (s := s) (o := none) (idx := []) hover
  have hcA : s.vm.findClass ("[" ++ (FieldType.array .byte).toString) = some cA := (hK.2 t0 _ ht1).2
  have hcB : s.vm.findClass ("[" ++ (FieldType.byte).toString) = some cB := (hK.2 t2 _ ht2).2
  have e4 : cO = cA := Option.some.inj (c5.symm.trans hcA)
  subst e4
  have e5 : comp = cB := Option.some.inj (c1.symm.trans hcB)
  subst e5
  obtain ⟨-, kB, hkB, -⟩ := (hK.2 t2 _ ht2).1 0 (fun _ => .null)
  have hHb : H[b]? = some (arrV comp n2 (fun j => .int (fB j))) := hP j _ hwj
  refine W.aast hx hb (hP k _ hwk) (fun q h => by cases h) (fun h => by cases h) c3 c4 rfl hkB ⟨h0, by show _ < (arrV _ _ _).slots.size; rw [arrV_size]; exact hlt2⟩ hHb (fun q h => by cases h) hkB (va_asg _ _) rfl rfl hd fun H1 e z oq => ?_
  have hP1 : va_P D cl (ws.set k (a, .inl (cO, len, .inr (.inr (.inr (.inr (va_up f i (some b)))))))) H1 := by
    refine hP.set hD hwk ?_ oq
    show H1[a]? = some (vp_cell _ _)
    rw [e]
    rw [vp_cell_q, vp_cell_q, arrV_store]
    congr 2
    funext q
    rw [f1]
    by_cases hq : q = i
    · subst hq
      simp [updV, va_up, va_rf]
    · simp [updV, va_up, hq]
  have ea := ev_fst_set (e' := .inl (cO, len, .inr (.inr (.inr (.inr (va_up f i (some b))))))) hwk
  refine g H1 _ ls lv r2 _ tys hK hP1 (hD.set hwk) (hS.put z oq (hD.2 k _ hwk)) (ev_hR_set hh hwk ⟨cO, _, rfl, by rw [List.length_set]; exact hlen, hlt, ⟨t0, ht0⟩, ?_⟩) hl hn (by rw [ea]; exact hL) (by rw [ea]; exact hr)
  rw [htc]
  refine ⟨_, rfl, fun j2 u hj2 => ?_⟩
  have h9 := ev_upd hf hi hw j2 u hj2
  unfold va_up
  by_cases hji : j2 = i
  · rw [if_pos hji] at h9 ⊢
    exact h9
  · rw [if_neg hji] at h9 ⊢
    exact h9
end EvJ
end
section
/-! FROM WHAT IS SAID OF EACH INSTRUCTION TO WHAT IS SAID OF A METHOD. -/
def ev_okR (P : Nat → ev_I → Prop) (K : Nat → Nat → Prop) : Nat → List (Option (ev_I ⊕ Nat)) → Prop
  | _, [] => True
  | pc, none :: l => ev_okR P K (pc + 1) l
  | pc, some (.inl f) :: l => P pc f ∧ ev_okR P K (pc + 1) l
  | pc, some (.inr k) :: l => K pc k ∧ ev_okR P K (pc + 1) l
def ev_okL (P : Nat → ev_I → Prop) (K : Nat → Nat → Prop) : Nat → List (List (Option (ev_I ⊕ Nat))) → Prop
  | _, [] => True
  | pc, r :: l => ev_okR P K pc r ∧ ev_okL P K (pc + 16) l
def ev_okX (P : Nat → ev_I → Prop) (K : Nat → Nat → Prop) (pc : Nat) : ev_I ⊕ Nat → Prop
  | .inl f => P pc f
  | .inr k => K pc k
theorem ev_okR_at {P : Nat → ev_I → Prop} {K : Nat → Nat → Prop} : ∀ (l : List (Option (ev_I ⊕ Nat))) (pc : Nat), ev_okR P K pc l → ∀ (i : Nat) (x : ev_I ⊕ Nat), l[i]? = some (some x) → ev_okX P K (pc + i) x
  | [], pc, h, i, x, hi => by simp at hi
  | none :: l, pc, h, i, x, hi => by
    match i, hi with
    | 0, hi => simp at hi
    | i + 1, hi =>
      rw [show pc + (i + 1) = pc + 1 + i by omega]
      exact ev_okR_at l (pc + 1) h i x (by simpa using hi)
  | some (.inl f) :: l, pc, h, i, x, hi => by
    match i, hi with
    | 0, hi =>
      cases hi
      exact h.1
    | i + 1, hi =>
      rw [show pc + (i + 1) = pc + 1 + i by omega]
      exact ev_okR_at l (pc + 1) h.2 i x (by simpa using hi)
  | some (.inr k) :: l, pc, h, i, x, hi => by
    match i, hi with
    | 0, hi =>
      cases hi
      exact h.1
    | i + 1, hi =>
      rw [show pc + (i + 1) = pc + 1 + i by omega]
      exact ev_okR_at l (pc + 1) h.2 i x (by simpa using hi)
theorem ev_okL_at {P : Nat → ev_I → Prop} {K : Nat → Nat → Prop} : ∀ (t : List (List (Option (ev_I ⊕ Nat)))) (pc : Nat), ev_okL P K pc t → ∀ (a : Nat) (r : List (Option (ev_I ⊕ Nat))), t[a]? = some r → ev_okR P K (pc + 16 * a) r
  | [], pc, h, a, r, ha => by simp at ha
  | q :: t, pc, h, a, r, ha => by
    match a, ha with
    | 0, ha =>
      cases ha
      exact h.1
    | a + 1, ha =>
      rw [show pc + 16 * (a + 1) = pc + 16 + 16 * a by omega]
      exact ev_okL_at t (pc + 16) h.2 a r (by simpa using ha)
theorem ev_code_at {P : Nat → ev_I → Prop} {K : Nat → Nat → Prop} {t : List (List (Option (ev_I ⊕ Nat)))} (h : ev_okL P K 0 t) {pc : Nat} {x : ev_I ⊕ Nat} (hx : ev_code t pc = some x) : ev_okX P K pc x := by
  unfold ev_code at hx
  rw [ev_lg_eq] at hx
  split at hx
  · next r hr =>
    rw [ev_lg_eq] at hx
    split at hx
    · next y hy =>
      subst hx
      have h1 := ev_okR_at r _ (ev_okL_at t 0 h (pc / 16) r hr) (pc % 16) x hy
      rw [show 0 + 16 * (pc / 16) + pc % 16 = pc by omega] at h1
      exact h1
    · cases hx
  · cases hx
theorem ev_mem {α : Type} {l : List α} {w : α} (i : Nat) (h : l[i]? = some w) : w ∈ l := List.mem_of_getElem? h
theorem ev_pz {P : Nat → ev_I → Prop} {K : Nat → Nat → Prop} {pc : Nat} : ev_okR P K pc [] := trivial
theorem ev_pn {P : Nat → ev_I → Prop} {K : Nat → Nat → Prop} {pc : Nat} {l : List (Option (ev_I ⊕ Nat))} (h : ev_okR P K (pc + 1) l) : ev_okR P K pc (ev_no :: l) := h
theorem ev_pc {P : Nat → ev_I → Prop} {K : Nat → Nat → Prop} {pc : Nat} {f : ev_I} {l : List (Option (ev_I ⊕ Nat))} (h1 : P pc f) (h : ev_okR P K (pc + 1) l) : ev_okR P K pc (ev_oi f :: l) := ⟨h1, h⟩
theorem ev_ps {P : Nat → ev_I → Prop} {K : Nat → Nat → Prop} {pc k : Nat} {l : List (Option (ev_I ⊕ Nat))} (h1 : K pc k) (h : ev_okR P K (pc + 1) l) : ev_okR P K pc (ev_os k :: l) := ⟨h1, h⟩
section EvL
variable {p : Program} {l : Launch} {e : Env} {R : Room} {s : State} {m : MethodId} {args : Array Value} {below : List Frame} {meth : Method} {c : Code} {Q : State → Prop} {nL : Nat} {D : va_G} {cl : List vw_C} {A : Nat → Prop} {H0 : Heap} {ex : Nat → Value} {ad0 : List Nat} {tyOf : Nat → FieldType}
variable {cc : ByteArray} {pc : Nat}
theorem ev_goodIn {W0 ws : List Cond} {y : MethodName} {bytes : ByteArray} {maxL : Nat} {ret : Option FieldType} (hg : W0.all goodWord = true) (h4 : Cond.code y bytes maxL ret ∈ W0) (hw : ws = Cond.code y bytes maxL ret :: W0) : GoodIn W0 ws := by
  intro w hw1
  rw [hw] at hw1
  have h1 : w ∈ W0 := (List.mem_cons.mp hw1).elim (fun h => by rw [h]; exact h4) (fun h => h)
  exact ⟨h1, good_of_word (List.all_eq_true.mp hg w h1)⟩
theorem ev_cwV {own C : String} {index maxL d cm sm : Nat} {y : MethodName} {bytes : ByteArray} {ret : Option FieldType} {W0 ws : List Cond} (n : Nat) (hg : W0.all goodWord = true) (ht : ∀ w ∈ W0, w.before args s = true) (hw : ws = Cond.code y bytes maxL ret :: W0) (h4 : Cond.code y bytes maxL ret ∈ W0) (h5 : Cond.initialized y.cls ∈ W0) (h1 : (Cond.methodLink own index y).before args s = true) (h2 : (Cond.instanceMethod y).before args s = true) (h3 : (Cond.selects C y y).before args s = true)
    (hd : y.cls ≠ "java/lang/invoke/MethodHandle" ∧ y.cls ≠ "java/lang/invoke/VarHandle" ∧ (parseMethodDescriptor y.desc).map (fun d => d.parameters.length) = some n) (hR : d + 1 ≤ R.frames ∧ 8 + (maxL + 11) + 64 * d ≤ R.locals) :
    CallW R s args own C index y bytes maxL ret ws ({ frames := d, cells := cm, slots := sm, locals := 64 * d } : Room) cm sm n :=
  ⟨callB_of n ht (ev_goodIn hg h4 hw) hw rfl rfl (ht _ h5) h1 hd hR, h2, h3⟩
theorem ev_cwS {own : String} {index maxL d cm sm : Nat} {y : MethodName} {bytes : ByteArray} {ret : Option FieldType} {W0 ws : List Cond} (n : Nat) (hg : W0.all goodWord = true) (ht : ∀ w ∈ W0, w.before args s = true) (hw : ws = Cond.code y bytes maxL ret :: W0) (h4 : Cond.code y bytes maxL ret ∈ W0) (h5 : Cond.initialized y.cls ∈ W0) (h1 : (Cond.methodLink own index y).before args s = true) (h2 : (Cond.static y).before args s = true)
    (hd : y.cls ≠ "java/lang/invoke/MethodHandle" ∧ y.cls ≠ "java/lang/invoke/VarHandle" ∧ (parseMethodDescriptor y.desc).map (fun d => d.parameters.length) = some n) (hR : d + 1 ≤ R.frames ∧ 8 + (maxL + 11) + 64 * d ≤ R.locals) :
    CallB R s args own index y bytes maxL ret ws ({ frames := d, cells := cm, slots := sm, locals := 64 * d } : Room) cm sm n ∧ (Cond.static y).before args s = true :=
  ⟨callB_of n ht (ev_goodIn hg h4 hw) hw rfl rfl (ht _ h5) h1 hd hR, h2⟩
theorem ev_cwI {own : String} {index maxL d cm sm : Nat} {y : MethodName} {bytes : ByteArray} {W0 ws : List Cond} (n : Nat) (hg : W0.all goodWord = true) (ht : ∀ w ∈ W0, w.before args s = true) (hw : ws = Cond.code y bytes maxL none :: W0) (h4 : Cond.code y bytes maxL none ∈ W0) (h5 : Cond.initialized y.cls ∈ W0) (h1 : (Cond.methodLink own index y).before args s = true) (h2 : (Cond.instanceMethod y).before args s = true) (hn : y.name = "<init>")
    (hd : y.cls ≠ "java/lang/invoke/MethodHandle" ∧ y.cls ≠ "java/lang/invoke/VarHandle" ∧ (parseMethodDescriptor y.desc).map (fun d => d.parameters.length) = some n) (hR : d + 1 ≤ R.frames ∧ 8 + (maxL + 11) + 64 * d ≤ R.locals) :
    CallB R s args own index y bytes maxL none ws ({ frames := d, cells := cm, slots := sm, locals := 64 * d } : Room) cm sm n ∧ y.name = "<init>" ∧ (Cond.instanceMethod y).before args s = true :=
  ⟨callB_of n ht (ev_goodIn hg h4 hw) hw rfl rfl (ht _ h5) h1 hd hR, hn, h2⟩
theorem ev_cwN {own host : String} {index maxL d cm sm : Nat} {y : MethodName} {bytes : ByteArray} {ret : Option FieldType} {W0 ws : List Cond} (n : Nat) (hg : W0.all goodWord = true) (ht : ∀ w ∈ W0, w.before args s = true) (hw : ws = Cond.code y bytes maxL ret :: W0) (h4 : Cond.code y bytes maxL ret ∈ W0) (h5 : Cond.initialized y.cls ∈ W0) (h1 : va_Nw (.methodLinkNest own index y host) s)
    (hd : y.cls ≠ "java/lang/invoke/MethodHandle" ∧ y.cls ≠ "java/lang/invoke/VarHandle" ∧ (parseMethodDescriptor y.desc).map (fun d => d.parameters.length) = some n) (hR : d + 1 ≤ R.frames ∧ 8 + (maxL + 11) + 64 * d ≤ R.locals) :
    va_CN R s args own index y host bytes maxL ret ws ({ frames := d, cells := cm, slots := sm, locals := 64 * d } : Room) cm sm n :=
  va_cnB n ht (ev_goodIn hg h4 hw) hw rfl rfl h1 (ht _ h5) hd hR
theorem ev_tsw2_ok (hx : p.tables.exec = Jvm.exec) (hb : c.code = cc) {dflt lo hi : Int} {offs : Array Int} {len dt : Nat} {ts : List Nat} (hd : decode cc pc = .ok (.tableswitch dflt lo hi offs, len)) (hdt : (pc : Int) + dflt = (dt : Int)) (hn9 : (ts.length : Int) = hi - lo + 1) (hts : offs.toList.map (fun o => (pc : Int) + o) = ts.map (fun t : Nat => (t : Int))) : ev_Sim p l e R s m args below meth c Q nL D cl A H0 ex ad0 tyOf pc (ev_tsw lo ts dt) := by
  refine ev_tsw_ok hx hb hd hdt hn9 fun i t ht => ?_
  have h1 : (ts.map (fun t : Nat => (t : Int)))[i]? = some (t : Int) := by simp [ht]
  rw [← hts, List.getElem?_map] at h1
  cases ho : offs.toList[i]? with
  | none => rw [ho] at h1; cases h1
  | some off =>
    rw [ho] at h1
    exact ⟨off, by simpa using ho, by simpa using h1⟩
theorem ev_lsw2_ok (hx : p.tables.exec = Jvm.exec) (hb : c.code = cc) {dflt : Int} {ps : Array (Int × Int)} {len dt : Nat} {qs : List (Int × Nat)} (hd : decode cc pc = .ok (.lookupswitch dflt ps, len)) (hp : (ps.toList.zip (ps.toList.drop 1)).all (fun (a, next) => a.1 < next.1) = true) (hdt : (pc : Int) + dflt = (dt : Int)) (hqs : ps.toList.map (fun o => (o.1, (pc : Int) + o.2)) = qs.map (fun t => (t.1, (t.2 : Int)))) : ev_Sim p l e R s m args below meth c Q nL D cl A H0 ex ad0 tyOf pc (ev_lsw qs dt) := by
  have hl : ps.toList.length = qs.length := by
    have h1 := congrArg List.length hqs
    simpa using h1
  refine ev_lsw_ok hx hb hd hp hdt hl fun i k t ht => ?_
  have h1 : (qs.map (fun t : Int × Nat => (t.1, (t.2 : Int))))[i]? = some (k, (t : Int)) := by simp [ht]
  rw [← hqs, List.getElem?_map] at h1
  cases ho : ps.toList[i]? with
  | none => rw [ho] at h1; cases h1
  | some o =>
    rw [ho] at h1
    obtain ⟨o1, o2⟩ := o
    have h2 : o1 = k ∧ (pc : Int) + o2 = (t : Int) := by simpa using h1
    exact ⟨o2, by rw [h2.1], h2.2⟩
theorem ev_ldcs2_ok (hx : p.tables.exec = Jvm.exec) (hb : c.code = cc) {own tx : String} {index j : Nat} (ho : s.vm.findClass own = some m.cls) (hZ : ∃ q, ex j = .ref q ∧ vk_R own index tx q s) (hd : decode cc pc = .ok (.ldc index, 2)) : ev_Sim p l e R s m args below meth c Q nL D cl A H0 ex ad0 tyOf pc (ev_push (pc + 2) (ev_ext j)) := by
  obtain ⟨q, h1, h2⟩ := hZ
  exact ev_ldcs_ok hx hb ho h2 h1 hd
end EvL
end
