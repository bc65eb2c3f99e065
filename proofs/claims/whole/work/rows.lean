section
/-! A PROVED EVALUATOR. Pictures of values, cells and heaps; an instruction is a function on pictures; nothing here speaks of a class. -/
/-- int (from lo to hi), long (from lo to hi), null, the cell at a place of the world, a thing outside of it -/
abbrev ev_V : Type := (Int × Int) ⊕ ((Int × Int) ⊕ Option (Nat ⊕ Nat))
/-- an object: its class's number, its fields; an array: its kind, its length, its elements -/
abbrev ev_C : Type := (Nat × List ev_V) ⊕ (Nat × Nat × List ev_V)
def ev_T (α : Type) : Nat → Type
  | 0 => α
  | n + 1 => ev_T α n × ev_T α n
def ev_tg {α : Type} : (n : Nat) → ev_T α n → Nat → α
  | 0, t, _ => t
  | n + 1, t, k => match (t : ev_T α n × ev_T α n) with
    | (l, r) => cond (Nat.beq (k % 2) 0) (ev_tg n l (k / 2)) (ev_tg n r (k / 2))
def ev_tS {α : Type} : (n : Nat) → ev_T α n → Nat → α → ev_T α n
  | 0, _, _, v => v
  | n + 1, t, k, v => match (t : ev_T α n × ev_T α n) with
    | (l, r) => cond (Nat.beq (k % 2) 0) (ev_tS n l (k / 2) v, r) (l, ev_tS n r (k / 2) v)
/-- the same, the new one made whole before it goes on -/
def ev_ts {α β : Type} : (n : Nat) → ev_T α n → Nat → α → (ev_T α n → β) → β
  | 0, _, _, v, κ => κ v
  | n + 1, t, k, v, κ => match (t : ev_T α n × ev_T α n) with
    | (l, r) => cond (Nat.beq (k % 2) 0) (ev_ts n l (k / 2) v (fun l' => κ (l', r))) (ev_ts n r (k / 2) v (fun r' => κ (l, r')))
theorem ev_ts_eq {α β : Type} : ∀ (n : Nat) (t : ev_T α n) (k : Nat) (v : α) (κ : ev_T α n → β), ev_ts n t k v κ = κ (ev_tS n t k v)
  | 0, _, _, _, _ => rfl
  | n + 1, (l, r), k, v, κ => by
    show cond (Nat.beq (k % 2) 0) (ev_ts n l (k / 2) v (fun l' => κ (l', r))) (ev_ts n r (k / 2) v (fun r' => κ (l, r'))) = κ (cond (Nat.beq (k % 2) 0) (ev_tS n l (k / 2) v, r) (l, ev_tS n r (k / 2) v))
    cases Nat.beq (k % 2) 0
    · exact ev_ts_eq n r (k / 2) v _
    · exact ev_ts_eq n l (k / 2) v _
theorem ev_mod2 (n j : Nat) : j % 2 ^ (n + 1) = j % 2 + 2 * (j / 2 % 2 ^ n) := by
  rw [Nat.pow_succ, Nat.mul_comm]
  exact Nat.mod_mul
theorem ev_b0 (n : Nat) : Nat.beq n 0 = decide (n = 0) := by
  by_cases h : n = 0
  · subst h
    rfl
  · rw [decide_eq_false h]
    cases n with
    | zero => exact absurd rfl h
    | succ n => rfl
theorem ev_tg_S {α : Type} : ∀ (n : Nat) (t : ev_T α n) (k : Nat) (v : α) (j : Nat), ev_tg n (ev_tS n t k v) j = if j % 2 ^ n = k % 2 ^ n then v else ev_tg n t j
  | 0, t, k, v, j => by
    have h : j % 2 ^ 0 = k % 2 ^ 0 := by simp [Nat.mod_one]
    rw [if_pos h]
    rfl
  | n + 1, (l, r), k, v, j => by
    show ev_tg (n + 1) (cond (Nat.beq (k % 2) 0) (ev_tS n l (k / 2) v, r) (l, ev_tS n r (k / 2) v)) j = if j % 2 ^ (n + 1) = k % 2 ^ (n + 1) then v else cond (Nat.beq (j % 2) 0) (ev_tg n l (j / 2)) (ev_tg n r (j / 2))
    rw [ev_mod2 n j, ev_mod2 n k]
    have hk : Nat.beq (k % 2) 0 = decide (k % 2 = 0) := ev_b0 _
    have hj : Nat.beq (j % 2) 0 = decide (j % 2 = 0) := ev_b0 _
    have e1 := ev_tg_S n l (k / 2) v (j / 2)
    have e2 := ev_tg_S n r (k / 2) v (j / 2)
    by_cases a : k % 2 = 0 <;> by_cases b : j % 2 = 0
    · rw [hk, decide_eq_true a]
      show cond (Nat.beq (j % 2) 0) (ev_tg n (ev_tS n l (k / 2) v) (j / 2)) (ev_tg n r (j / 2)) = _
      rw [hj, decide_eq_true b]
      show ev_tg n (ev_tS n l (k / 2) v) (j / 2) = if _ then v else ev_tg n l (j / 2)
      rw [e1]
      by_cases q : j / 2 % 2 ^ n = k / 2 % 2 ^ n
      · rw [if_pos q, if_pos (by omega)]
      · rw [if_neg q, if_neg (by omega)]
    · rw [hk, decide_eq_true a]
      show cond (Nat.beq (j % 2) 0) (ev_tg n (ev_tS n l (k / 2) v) (j / 2)) (ev_tg n r (j / 2)) = _
      rw [hj, decide_eq_false b, if_neg (by omega)]
      rfl
    · rw [hk, decide_eq_false a]
      show cond (Nat.beq (j % 2) 0) (ev_tg n l (j / 2)) (ev_tg n (ev_tS n r (k / 2) v) (j / 2)) = _
      rw [hj, decide_eq_true b, if_neg (by omega)]
      rfl
    · rw [hk, decide_eq_false a]
      show cond (Nat.beq (j % 2) 0) (ev_tg n l (j / 2)) (ev_tg n (ev_tS n r (k / 2) v) (j / 2)) = _
      rw [hj, decide_eq_false b]
      show ev_tg n (ev_tS n r (k / 2) v) (j / 2) = if _ then v else ev_tg n r (j / 2)
      rw [e2]
      by_cases q : j / 2 % 2 ^ n = k / 2 % 2 ^ n
      · rw [if_pos q, if_pos (by omega)]
      · rw [if_neg q, if_neg (by omega)]
/-- numbers are made whole before they go on -/
def ev_fN {β : Type} (n : Nat) (κ : Nat → β) : β := match n with
  | 0 => κ 0
  | m + 1 => κ (m + 1)
theorem ev_fN_eq {β : Type} (n : Nat) (κ : Nat → β) : ev_fN n κ = κ n := by cases n <;> rfl
def ev_fI {β : Type} (z : Int) (κ : Int → β) : β := match z with
  | .ofNat n => ev_fN n (fun m => κ (.ofNat m))
  | .negSucc n => ev_fN n (fun m => κ (.negSucc m))
theorem ev_fI_eq {β : Type} (z : Int) (κ : Int → β) : ev_fI z κ = κ z := by
  cases z with
  | ofNat n => exact ev_fN_eq n (fun m => κ (.ofNat m))
  | negSucc n => exact ev_fN_eq n (fun m => κ (.negSucc m))
def ev_lg {α : Type} : List α → Nat → Option α
  | [], _ => none
  | a :: l, k => match k with
    | 0 => some a
    | k + 1 => ev_lg l k
theorem ev_lg_eq {α : Type} : ∀ (l : List α) (k : Nat), ev_lg l k = l[k]?
  | [], k => by simp [ev_lg]
  | a :: l, 0 => by simp [ev_lg]
  | a :: l, k + 1 => by
    show ev_lg l k = _
    rw [ev_lg_eq l k, List.getElem?_cons_succ]
def ev_ls {α β : Type} : List α → Nat → α → (List α → β) → β → β
  | [], _, _, _, f => f
  | a :: l, k, v, κ, f => match k with
    | 0 => κ (v :: l)
    | k + 1 => ev_ls l k v (fun l' => κ (a :: l')) f
theorem ev_ls_eq {α β : Type} : ∀ (l : List α) (k : Nat) (v : α) (κ : List α → β) (f : β), ev_ls l k v κ f = if k < l.length then κ (l.set k v) else f
  | [], k, v, κ, f => by simp [ev_ls]
  | a :: l, 0, v, κ, f => by simp [ev_ls]
  | a :: l, k + 1, v, κ, f => by
    show ev_ls l k v (fun l' => κ (a :: l')) f = _
    rw [ev_ls_eq l k v _ f]
    simp
/-- how many cells there are; the cells that are known -/
abbrev ev_Hp : Type := Nat × ev_T (Option ev_C) 10
/-- the stack, the locals, the heap, cells and slots made by this frame so far -/
abbrev ev_S : Type := List ev_V × (List (Option ev_V) × (ev_Hp × (Nat × Nat)))
abbrev ev_I : Type := ev_S → Option (Nat × ev_S)
abbrev ev_int (z : Int) : ev_V := .inl (z, z)
abbrev ev_any : ev_V := .inl (-2147483648, 2147483647)
abbrev ev_null : ev_V := .inr (.inr none)
abbrev ev_ref (k : Nat) : ev_V := .inr (.inr (some (.inl k)))
abbrev ev_ext (k : Nat) : ev_V := .inr (.inr (some (.inr k)))
def ev_long (v : ev_V) : Bool := match v with
  | .inr (.inl _) => true
  | _ => false
/-- an int's interval to another's -/
def ev_lt (a b : Int × Int) : Option Bool := match a, b with
  | (a1, a2), (b1, b2) => cond (decide (a2 < b1)) (some true) (cond (decide (b2 ≤ a1)) (some false) none)
def ev_eq (a b : Int × Int) : Option Bool := match a, b with
  | (a1, a2), (b1, b2) => cond (decide (a2 < b1)) (some false) (cond (decide (b2 < a1)) (some false) (cond (decide (a1 = a2) && decide (b1 = b2)) (some true) none))
theorem ev_lt_t {a b : Int × Int} {x y : Int} (h : ev_lt a b = some true) (ha : x ≤ a.2) (hb : b.1 ≤ y) : x < y := by
  obtain ⟨a1, a2⟩ := a
  obtain ⟨b1, b2⟩ := b
  simp only [ev_lt] at h
  by_cases q : a2 < b1
  · dsimp only at ha hb
    omega
  · rw [decide_eq_false q] at h
    by_cases q2 : b2 ≤ a1
    · rw [decide_eq_true q2] at h
      cases h
    · rw [decide_eq_false q2] at h
      cases h
theorem ev_lt_f {a b : Int × Int} {x y : Int} (h : ev_lt a b = some false) (ha : a.1 ≤ x) (hb : y ≤ b.2) : ¬ x < y := by
  obtain ⟨a1, a2⟩ := a
  obtain ⟨b1, b2⟩ := b
  simp only [ev_lt] at h
  by_cases q : a2 < b1
  · rw [decide_eq_true q] at h
    cases h
  · rw [decide_eq_false q] at h
    by_cases q2 : b2 ≤ a1
    · dsimp only at ha hb
      omega
    · rw [decide_eq_false q2] at h
      cases h
theorem ev_eq_t {a b : Int × Int} {x y : Int} (h : ev_eq a b = some true) (ha : a.1 ≤ x) (ha2 : x ≤ a.2) (hb : b.1 ≤ y) (hb2 : y ≤ b.2) : x = y := by
  obtain ⟨a1, a2⟩ := a
  obtain ⟨b1, b2⟩ := b
  simp only [ev_eq] at h
  dsimp only at ha ha2 hb hb2
  by_cases q : a2 < b1
  · rw [decide_eq_true q] at h
    cases h
  · rw [decide_eq_false q] at h
    by_cases q2 : b2 < a1
    · rw [decide_eq_true q2] at h
      cases h
    · rw [decide_eq_false q2] at h
      by_cases q3 : a1 = a2
      · by_cases q4 : b1 = b2
        · omega
        · rw [decide_eq_false q4, decide_eq_true q3] at h
          cases h
      · rw [decide_eq_false q3] at h
        cases h
theorem ev_eq_f {a b : Int × Int} {x y : Int} (h : ev_eq a b = some false) (ha : a.1 ≤ x) (ha2 : x ≤ a.2) (hb : b.1 ≤ y) (hb2 : y ≤ b.2) : ¬ x = y := by
  obtain ⟨a1, a2⟩ := a
  obtain ⟨b1, b2⟩ := b
  simp only [ev_eq] at h
  dsimp only at ha ha2 hb hb2
  by_cases q : a2 < b1
  · omega
  · rw [decide_eq_false q] at h
    by_cases q2 : b2 < a1
    · omega
    · rw [decide_eq_false q2] at h
      by_cases q3 : a1 = a2
      · by_cases q4 : b1 = b2
        · rw [decide_eq_true q4, decide_eq_true q3] at h
          cases h
        · rw [decide_eq_false q4, decide_eq_true q3] at h
          cases h
      · rw [decide_eq_false q3] at h
        cases h
theorem ev_bt {a b : Bool} {α : Type} {x : Option α} {y : α} (h : cond (a && b) x none = some y) : a = true ∧ b = true ∧ x = some y := by
  cases a <;> cases b
  · cases h
  · cases h
  · cases h
  · exact ⟨rfl, rfl, h⟩
theorem ev_bt1 {a : Bool} {α : Type} {x : Option α} {y : α} (h : cond a x none = some y) : a = true ∧ x = some y := by
  cases a
  · cases h
  · exact ⟨rfl, h⟩
end
section
/-! PICTURES AND WORLDS; what an instruction's function must keep (ev_Sim); the rows of the stack, the locals, the branches. -/
def ev_vR (ad : List Nat) (ex : Nat → Value) : ev_V → Value → Prop
  | .inl (lo, hi), w => ∃ x : Int32, w = .int x ∧ lo ≤ x.toInt ∧ x.toInt ≤ hi
  | .inr (.inl (lo, hi)), w => ∃ x : Int64, w = .long x ∧ lo ≤ x.toInt ∧ x.toInt ≤ hi
  | .inr (.inr none), w => w = .null
  | .inr (.inr (some (.inl k))), w => ∃ a, ad[k]? = some a ∧ w = .ref a
  | .inr (.inr (some (.inr j))), w => w = ex j ∧ (w = .null ∨ ∃ a, w = .ref a)
/-- 0: ints and what is narrower; 1: longs; 2: references -/
def ev_kd (ty : FieldType) : Nat := match ty with
  | .long => 1
  | .object _ => 2
  | .array _ => 2
  | .float => 3
  | .double => 3
  | _ => 0
def ev_aR (ad : List Nat) (ex : Nat → Value) (els : List ev_V) : Nat → ((Nat → Int32) ⊕ (Nat → Int64) ⊕ (Nat → UInt32) ⊕ (Nat → UInt64) ⊕ (Nat → Option Nat)) → Prop
  | 0, x => ∃ f, x = .inl f ∧ ∀ j v, els[j]? = some v → ev_vR ad ex v (.int (f j))
  | 1, x => ∃ f, x = .inr (.inl f) ∧ ∀ j v, els[j]? = some v → ev_vR ad ex v (.long (f j))
  | 2, x => ∃ f, x = .inr (.inr (.inr (.inr f))) ∧ ∀ j v, els[j]? = some v → ev_vR ad ex v (va_rf (f j))
  | _, _ => False
def ev_cR (tyOf : Nat → FieldType) (tys : List (ClassId × FieldType)) (ad : List Nat) (ex : Nat → Value) : ev_C → va_E → Prop
  | .inl (ci, fs), e => ∃ vs : List Value, e = .inr (ci, vs) ∧ vs.length = fs.length ∧ ∀ (k : Nat) (v : ev_V), fs[k]? = some v → ∃ w, vs[k]? = some w ∧ ev_vR ad ex v w
  | .inr (tc, n, els), e => ∃ cA x, e = .inl (cA, n, x) ∧ els.length = n ∧ n < 2147483648 ∧ (∃ t0 : Nat, tys[t0]? = some (cA, tyOf tc)) ∧ ev_aR ad ex els (ev_kd (tyOf tc)) x
def ev_hR (ad0 : List Nat) (tyOf : Nat → FieldType) (tys : List (ClassId × FieldType)) (ex : Nat → Value) (h : ev_Hp) (ws : va_W) : Prop :=
  ws.length = h.1 ∧ h.1 ≤ 1024 ∧ (∀ k a : Nat, ad0[k]? = some a → (ws.map Prod.fst)[k]? = some a) ∧ ∀ k, k < 1024 → ∀ q, ev_tg 10 h.2 k = some q → ∃ a e, ws[k]? = some (a, e) ∧ ev_cR tyOf tys (ws.map Prod.fst) ex q e
def ev_lR (ad : List Nat) (ex : Nat → Value) (L : List (Option ev_V)) (lv : List (Nat × Value)) : Prop := ∀ i v, L[i]? = some (some v) → ∃ w, (i, w) ∈ lv ∧ ev_vR ad ex v w
def ev_kR (ad : List Nat) (ex : Nat → Value) : List ev_V → List Value → Prop
  | [], st => st = []
  | v :: l, st => ∃ w r, st = w :: r ∧ ev_vR ad ex v w ∧ ev_kR ad ex l r
/-- from every state of the machine that the picture is of, the end is come to -/
def ev_G (p : Program) (l : Launch) (e : Env) (R : Room) (s : State) (m : MethodId) (args : Array Value) (below : List Frame) (meth : Method) (c : Code) (Q : State → Prop) (nL : Nat) (D : va_G) (cl : List vw_C) (A : Nat → Prop) (H0 : Heap) (ex : Nat → Value) (ad0 : List Nat) (tyOf : Nat → FieldType) (pc : Nat) (st : ev_S) : Prop :=
  ∀ (H : Heap) (locs : List Loc) (ls : Array Slot) (lv : List (Nat × Value)) (sv : List Value) (ws : va_W) (tys : List (ClassId × FieldType)),
    va_K D cl tys s → va_P D cl ws H → va_D A ws → va_S A H0 H locs → ev_hR ad0 tyOf tys ex st.2.2.1 ws → lv_has ls nL lv → st.2.1.length = nL → ev_lR (ws.map Prod.fst) ex st.2.1 lv → ev_kR (ws.map Prod.fst) ex st.1 sv →
    W p l e R s m args below meth c H locs st.2.2.2.1 st.2.2.2.2 Q (F0 m pc ls sv)
/-- what an instruction's function must keep -/
def ev_Sim (p : Program) (l : Launch) (e : Env) (R : Room) (s : State) (m : MethodId) (args : Array Value) (below : List Frame) (meth : Method) (c : Code) (Q : State → Prop) (nL : Nat) (D : va_G) (cl : List vw_C) (A : Nat → Prop) (H0 : Heap) (ex : Nat → Value) (ad0 : List Nat) (tyOf : Nat → FieldType) (pc : Nat) (f : ev_I) : Prop :=
  ∀ (st : ev_S) (pc' : Nat) (st' : ev_S), f st = some (pc', st') → ev_G p l e R s m args below meth c Q nL D cl A H0 ex ad0 tyOf pc' st' → ev_G p l e R s m args below meth c Q nL D cl A H0 ex ad0 tyOf pc st
-- the instructions' functions
def ev_push (n : Nat) (v : ev_V) : ev_I := fun st => match st with
  | (stk, r) => some (n, (v :: stk, r))
def ev_iload (n i : Nat) : ev_I := fun st => match st with
  | (stk, L, r) => match ev_lg L i with
    | some (some (.inl v)) => some (n, (.inl v :: stk, L, r))
    | _ => none
def ev_lload (n i : Nat) : ev_I := fun st => match st with
  | (stk, L, r) => match ev_lg L i with
    | some (some (.inr (.inl v))) => some (n, (.inr (.inl v) :: stk, L, r))
    | _ => none
def ev_aload (n i : Nat) : ev_I := fun st => match st with
  | (stk, L, r) => match ev_lg L i with
    | some (some (.inr (.inr v))) => some (n, (.inr (.inr v) :: stk, L, r))
    | _ => none
/-- no long lies just ahead -/
def ev_free (L : List (Option ev_V)) (i : Nat) : Bool := match i with
  | 0 => true
  | j + 1 => match ev_lg L j with
    | some (some (.inr (.inl _))) => false
    | _ => true
def ev_istore (n i : Nat) : ev_I := fun st => match st with
  | (.inl v :: stk, L, r) => cond (ev_free L i) (ev_ls L i (some (.inl v)) (fun L' => some (n, (stk, L', r))) none) none
  | _ => none
def ev_astore (n i : Nat) : ev_I := fun st => match st with
  | (.inr (.inr v) :: stk, L, r) => cond (ev_free L i) (ev_ls L i (some (.inr (.inr v))) (fun L' => some (n, (stk, L', r))) none) none
  | _ => none
def ev_dup (n : Nat) : ev_I := fun st => match st with
  | (v :: stk, r) => cond (ev_long v) none (some (n, (v :: v :: stk, r)))
  | _ => none
def ev_pop (n : Nat) : ev_I := fun st => match st with
  | (v :: stk, r) => cond (ev_long v) none (some (n, (stk, r)))
  | _ => none
def ev_goto (t : Nat) : ev_I := fun st => some (t, st)
def ev_wr32 (z : Int) : Int := Int.bmod z 4294967296
def ev_iinc (n i : Nat) (d : Int) : ev_I := fun st => match st with
  | (stk, L, r) => match ev_lg L i with
    | some (some (.inl (lo, hi))) => cond (decide (lo = hi) && ev_free L i) (ev_fI (ev_wr32 (lo + d)) (fun z => ev_ls L i (some (.inl (z, z))) (fun L' => some (n, (stk, L', r))) none)) none
    | _ => none
/-- by what was found: on, or to t -/
def ev_to (n t : Nat) (b : Option Bool) (st : ev_S) : Option (Nat × ev_S) := match b with
  | some true => some (t, st)
  | some false => some (n, st)
  | none => none
def ev_not (b : Option Bool) : Option Bool := match b with
  | some true => some false
  | some false => some true
  | none => none
/-- 0 eq, 1 ne, 2 lt, 3 ge, 4 gt, 5 le: of a (below) and b (on top) -/
def ev_rel (k : Nat) (a b : Int × Int) : Option Bool := match k with
  | 0 => ev_eq a b
  | 1 => ev_not (ev_eq a b)
  | 2 => ev_lt a b
  | 3 => ev_not (ev_lt a b)
  | 4 => ev_lt b a
  | 5 => ev_not (ev_lt b a)
  | _ => none
def ev_icmp (k n t : Nat) : ev_I := fun st => match st with
  | (.inl b :: .inl a :: stk, r) => ev_to n t (ev_rel k a b) (stk, r)
  | _ => none
def ev_if (k n t : Nat) : ev_I := fun st => match st with
  | (.inl a :: stk, r) => ev_to n t (ev_rel k a (0, 0)) (stk, r)
  | _ => none
def ev_ifnull (n t : Nat) : ev_I := fun st => match st with
  | (.inr (.inr none) :: stk, r) => some (t, (stk, r))
  | (.inr (.inr (some (.inl _))) :: stk, r) => some (n, (stk, r))
  | _ => none
def ev_ifnonnull (n t : Nat) : ev_I := fun st => match st with
  | (.inr (.inr none) :: stk, r) => some (n, (stk, r))
  | (.inr (.inr (some (.inl _))) :: stk, r) => some (t, (stk, r))
  | _ => none
section EvA
variable {p : Program} {l : Launch} {e : Env} {R : Room} {s : State} {m : MethodId} {args : Array Value} {below : List Frame} {meth : Method} {c : Code} {Q : State → Prop} {nL : Nat} {D : va_G} {cl : List vw_C} {A : Nat → Prop} {H0 : Heap} {ex : Nat → Value} {ad0 : List Nat} {tyOf : Nat → FieldType}
variable {cc : ByteArray} {pc : Nat}
theorem ev_iconst_ok (hx : p.tables.exec = Jvm.exec) (hb : c.code = cc) {z : Int} {x : Int32} (hd : decode cc pc = .ok (.iconst z, 1)) (hv : Int32.ofInt z = x) (hz : x.toInt = z) : ev_Sim p l e R s m args below meth c Q nL D cl A H0 ex ad0 tyOf pc (ev_push (pc + 1) (ev_int z)) := by
  intro st pc' st' h g
  obtain ⟨stk, r⟩ := st
  cases h
  intro H locs ls lv sv ws tys hK hP hD hS hh hl hn hL hs
  exact lv_iconst hx hb hd hv (g H locs ls lv (.int x :: sv) ws tys hK hP hD hS hh hl hn hL ⟨_, _, rfl, ⟨x, rfl, by rw [hz]; exact Int.le_refl _, by rw [hz]; exact Int.le_refl _⟩, hs⟩)
theorem ev_bipush_ok (hx : p.tables.exec = Jvm.exec) (hb : c.code = cc) {z : Int} {x : Int32} (hd : decode cc pc = .ok (.bipush z, 2)) (hv : (Int8.ofInt z).toInt32 = x) (hz : x.toInt = z) : ev_Sim p l e R s m args below meth c Q nL D cl A H0 ex ad0 tyOf pc (ev_push (pc + 2) (ev_int z)) := by
  intro st pc' st' h g
  obtain ⟨stk, r⟩ := st
  cases h
  intro H locs ls lv sv ws tys hK hP hD hS hh hl hn hL hs
  exact lv_bipush hx hb hd hv (g H locs ls lv (.int x :: sv) ws tys hK hP hD hS hh hl hn hL ⟨_, _, rfl, ⟨x, rfl, by rw [hz]; exact Int.le_refl _, by rw [hz]; exact Int.le_refl _⟩, hs⟩)
theorem ev_sipush_ok (hx : p.tables.exec = Jvm.exec) (hb : c.code = cc) {z : Int} {x : Int32} (hd : decode cc pc = .ok (.sipush z, 3)) (hv : (Int16.ofInt z).toInt32 = x) (hz : x.toInt = z) : ev_Sim p l e R s m args below meth c Q nL D cl A H0 ex ad0 tyOf pc (ev_push (pc + 3) (ev_int z)) := by
  intro st pc' st' h g
  obtain ⟨stk, r⟩ := st
  cases h
  intro H locs ls lv sv ws tys hK hP hD hS hh hl hn hL hs
  exact lv_sipush hx hb hd hv (g H locs ls lv (.int x :: sv) ws tys hK hP hD hS hh hl hn hL ⟨_, _, rfl, ⟨x, rfl, by rw [hz]; exact Int.le_refl _, by rw [hz]; exact Int.le_refl _⟩, hs⟩)
theorem ev_ldc_ok (hx : p.tables.exec = Jvm.exec) (hb : c.code = cc) {own : String} {index : Nat} {z : Int} {x : Int32} (ho : s.vm.findClass own = some m.cls) (hc : (Jvm.Cond.constant own index x).before args s = true) (hd : decode cc pc = .ok (.ldc index, 2)) (hz : x.toInt = z) : ev_Sim p l e R s m args below meth c Q nL D cl A H0 ex ad0 tyOf pc (ev_push (pc + 2) (ev_int z)) := by
  intro st pc' st' h g
  obtain ⟨stk, r⟩ := st
  cases h
  intro H locs ls lv sv ws tys hK hP hD hS hh hl hn hL hs
  exact lv_ldc hx hb ho hc hd (g H locs ls lv (.int x :: sv) ws tys hK hP hD hS hh hl hn hL ⟨_, _, rfl, ⟨x, rfl, by rw [hz]; exact Int.le_refl _, by rw [hz]; exact Int.le_refl _⟩, hs⟩)
theorem ev_lconst_ok (hx : p.tables.exec = Jvm.exec) (hb : c.code = cc) {k : Fin 2} {z : Int} {x : Int64} (hd : decode cc pc = .ok (.lconst k, 1)) (hv : Int64.ofNat (k : Nat) = x) (hz : x.toInt = z) : ev_Sim p l e R s m args below meth c Q nL D cl A H0 ex ad0 tyOf pc (ev_push (pc + 1) (.inr (.inl (z, z)))) := by
  intro st pc' st' h g
  obtain ⟨stk, r⟩ := st
  cases h
  intro H locs ls lv sv ws tys hK hP hD hS hh hl hn hL hs
  exact lv_lconst hx hb hd hv (g H locs ls lv (.long x :: sv) ws tys hK hP hD hS hh hl hn hL ⟨_, _, rfl, ⟨x, rfl, by rw [hz]; exact Int.le_refl _, by rw [hz]; exact Int.le_refl _⟩, hs⟩)
theorem ev_ldc2_ok (hx : p.tables.exec = Jvm.exec) (hb : c.code = cc) {own : String} {index : Nat} {z : Int} {x : Int64} (ho : s.vm.findClass own = some m.cls) (hc : (Jvm.Cond.constantLong own index x).before args s = true) (hd : decode cc pc = .ok (.ldc2_w index, 3)) (hz : x.toInt = z) : ev_Sim p l e R s m args below meth c Q nL D cl A H0 ex ad0 tyOf pc (ev_push (pc + 3) (.inr (.inl (z, z)))) := by
  intro st pc' st' h g
  obtain ⟨stk, r⟩ := st
  cases h
  intro H locs ls lv sv ws tys hK hP hD hS hh hl hn hL hs
  exact lv_ldc2 hx hb ho hc hd (g H locs ls lv (.long x :: sv) ws tys hK hP hD hS hh hl hn hL ⟨_, _, rfl, ⟨x, rfl, by rw [hz]; exact Int.le_refl _, by rw [hz]; exact Int.le_refl _⟩, hs⟩)
theorem ev_null_ok (hx : p.tables.exec = Jvm.exec) (hb : c.code = cc) (hd : decode cc pc = .ok (.aconst_null, 1)) : ev_Sim p l e R s m args below meth c Q nL D cl A H0 ex ad0 tyOf pc (ev_push (pc + 1) ev_null) := by
  intro st pc' st' h g
  obtain ⟨stk, r⟩ := st
  cases h
  intro H locs ls lv sv ws tys hK hP hD hS hh hl hn hL hs
  exact lv_null hx hb hd (g H locs ls lv (.null :: sv) ws tys hK hP hD hS hh hl hn hL ⟨_, _, rfl, rfl, hs⟩)
theorem ev_at {ls : Array Slot} {lv : List (Nat × Value)} {i : Nat} {w : Value} (h : lv_has ls nL lv) (hw : (i, w) ∈ lv) : ls[i]? = some (.val w) := h.2.2 (i, w) hw
theorem ev_iload_i {st st' : ev_S} {n i pc' : Nat} (h : ev_iload n i st = some (pc', st')) : ∃ v, st.2.1[i]? = some (some (.inl v)) ∧ pc' = n ∧ st' = (.inl v :: st.1, st.2) := by
  obtain ⟨stk, L, r⟩ := st
  simp only [ev_iload, ev_lg_eq] at h
  split at h
  · next v hv => cases h; exact ⟨v, hv, rfl, rfl⟩
  · cases h
theorem ev_lload_i {st st' : ev_S} {n i pc' : Nat} (h : ev_lload n i st = some (pc', st')) : ∃ v, st.2.1[i]? = some (some (.inr (.inl v))) ∧ pc' = n ∧ st' = (.inr (.inl v) :: st.1, st.2) := by
  obtain ⟨stk, L, r⟩ := st
  simp only [ev_lload, ev_lg_eq] at h
  split at h
  · next v hv => cases h; exact ⟨v, hv, rfl, rfl⟩
  · cases h
theorem ev_aload_i {st st' : ev_S} {n i pc' : Nat} (h : ev_aload n i st = some (pc', st')) : ∃ v, st.2.1[i]? = some (some (.inr (.inr v))) ∧ pc' = n ∧ st' = (.inr (.inr v) :: st.1, st.2) := by
  obtain ⟨stk, L, r⟩ := st
  simp only [ev_aload, ev_lg_eq] at h
  split at h
  · next v hv => cases h; exact ⟨v, hv, rfl, rfl⟩
  · cases h
theorem ev_rf {ad : List Nat} {ex : Nat → Value} {v : Option (Nat ⊕ Nat)} {w : Value} (h : ev_vR ad ex (.inr (.inr v)) w) : (w = .null ∧ True) ∨ ∃ a, w = .ref a ∧ True := by
  match v, h with
  | none, h => exact Or.inl ⟨h, trivial⟩
  | some (.inl k), ⟨a, _, h⟩ => exact Or.inr ⟨a, h, trivial⟩
  | some (.inr j), ⟨_, h⟩ =>
    rcases h with h | ⟨a, h⟩
    · exact Or.inl ⟨h, trivial⟩
    · exact Or.inr ⟨a, h, trivial⟩
theorem ev_iload_n_ok (hx : p.tables.exec = Jvm.exec) (hb : c.code = cc) {k : Fin 4} {i : Nat} (hd : decode cc pc = .ok (.iload_n k, 1)) (hi : (k : Nat) = i) : ev_Sim p l e R s m args below meth c Q nL D cl A H0 ex ad0 tyOf pc (ev_iload (pc + 1) i) := by
  intro st pc' st' h g
  obtain ⟨⟨lo, hh1⟩, hv, rfl, rfl⟩ := ev_iload_i h
  intro H locs ls lv sv ws tys hK hP hD hS hh hl hn hL hs
  obtain ⟨w, hw, x, rfl, h1, h2⟩ := hL i _ hv
  exact lv_iload_n hx hb hd hi (ev_at hl hw) (g H locs ls lv (.int x :: sv) ws tys hK hP hD hS hh hl hn hL ⟨_, _, rfl, ⟨x, rfl, h1, h2⟩, hs⟩)
theorem ev_iload_ok (hx : p.tables.exec = Jvm.exec) (hb : c.code = cc) {i : Nat} (hd : decode cc pc = .ok (.iload i, 2)) : ev_Sim p l e R s m args below meth c Q nL D cl A H0 ex ad0 tyOf pc (ev_iload (pc + 2) i) := by
  intro st pc' st' h g
  obtain ⟨⟨lo, hh1⟩, hv, rfl, rfl⟩ := ev_iload_i h
  intro H locs ls lv sv ws tys hK hP hD hS hh hl hn hL hs
  obtain ⟨w, hw, x, rfl, h1, h2⟩ := hL i _ hv
  exact lv_iload hx hb hd (ev_at hl hw) (g H locs ls lv (.int x :: sv) ws tys hK hP hD hS hh hl hn hL ⟨_, _, rfl, ⟨x, rfl, h1, h2⟩, hs⟩)
theorem ev_lload_n_ok (hx : p.tables.exec = Jvm.exec) (hb : c.code = cc) {k : Fin 4} {i : Nat} (hd : decode cc pc = .ok (.lload_n k, 1)) (hi : (k : Nat) = i) : ev_Sim p l e R s m args below meth c Q nL D cl A H0 ex ad0 tyOf pc (ev_lload (pc + 1) i) := by
  intro st pc' st' h g
  obtain ⟨⟨lo, hh1⟩, hv, rfl, rfl⟩ := ev_lload_i h
  intro H locs ls lv sv ws tys hK hP hD hS hh hl hn hL hs
  obtain ⟨w, hw, x, rfl, h1, h2⟩ := hL i _ hv
  exact lv_lload_n hx hb hd hi (ev_at hl hw) (g H locs ls lv (.long x :: sv) ws tys hK hP hD hS hh hl hn hL ⟨_, _, rfl, ⟨x, rfl, h1, h2⟩, hs⟩)
theorem ev_aload_n_ok (hx : p.tables.exec = Jvm.exec) (hb : c.code = cc) {k : Fin 4} {i : Nat} (hd : decode cc pc = .ok (.aload_n k, 1)) (hi : (k : Nat) = i) : ev_Sim p l e R s m args below meth c Q nL D cl A H0 ex ad0 tyOf pc (ev_aload (pc + 1) i) := by
  intro st pc' st' h g
  obtain ⟨v, hv, rfl, rfl⟩ := ev_aload_i h
  intro H locs ls lv sv ws tys hK hP hD hS hh hl hn hL hs
  obtain ⟨w, hw, hr⟩ := hL i _ hv
  rcases ev_rf hr with ⟨rfl, -⟩ | ⟨a, rfl, -⟩
  · exact lv_aload_nN hx hb hd hi (ev_at hl hw) (g H locs ls lv (.null :: sv) ws tys hK hP hD hS hh hl hn hL ⟨_, _, rfl, hr, hs⟩)
  · exact lv_aload_n hx hb hd hi (ev_at hl hw) (g H locs ls lv (.ref a :: sv) ws tys hK hP hD hS hh hl hn hL ⟨_, _, rfl, hr, hs⟩)
theorem ev_aload_ok (hx : p.tables.exec = Jvm.exec) (hb : c.code = cc) {i : Nat} (hd : decode cc pc = .ok (.aload i, 2)) : ev_Sim p l e R s m args below meth c Q nL D cl A H0 ex ad0 tyOf pc (ev_aload (pc + 2) i) := by
  intro st pc' st' h g
  obtain ⟨v, hv, rfl, rfl⟩ := ev_aload_i h
  intro H locs ls lv sv ws tys hK hP hD hS hh hl hn hL hs
  obtain ⟨w, hw, hr⟩ := hL i _ hv
  rcases ev_rf hr with ⟨rfl, -⟩ | ⟨a, rfl, -⟩
  · exact lv_aloadN hx hb hd (ev_at hl hw) (g H locs ls lv (.null :: sv) ws tys hK hP hD hS hh hl hn hL ⟨_, _, rfl, hr, hs⟩)
  · exact lv_aload hx hb hd (ev_at hl hw) (g H locs ls lv (.ref a :: sv) ws tys hK hP hD hS hh hl hn hL ⟨_, _, rfl, hr, hs⟩)
theorem ev_goto_ok (hx : p.tables.exec = Jvm.exec) (hb : c.code = cc) {off : Int} {t : Nat} (hd : decode cc pc = .ok (.goto off, 3)) (ht : (pc : Int) + off = (t : Int)) : ev_Sim p l e R s m args below meth c Q nL D cl A H0 ex ad0 tyOf pc (ev_goto t) := by
  intro st pc' st' h g
  cases h
  intro H locs ls lv sv ws tys hK hP hD hS hh hl hn hL hs
  exact lv_goto hx hb hd ht (g H locs ls lv sv ws tys hK hP hD hS hh hl hn hL hs)
theorem ev_cat {ad : List Nat} {ex : Nat → Value} {v : ev_V} {w : Value} (h : ev_vR ad ex v w) (hv : ev_long v = false) : w.category = 1 := by
  match v, h, hv with
  | .inl (lo, hi), ⟨x, h, _⟩, _ => rw [h]; rfl
  | .inr (.inr none), h, _ => rw [show w = Value.null from h]; rfl
  | .inr (.inr (some (.inl k))), ⟨a, _, h⟩, _ => rw [h]; rfl
  | .inr (.inr (some (.inr j))), ⟨_, h⟩, _ =>
    rcases h with h | ⟨a, h⟩
    · rw [h]; rfl
    · rw [h]; rfl
theorem ev_dup_ok (hx : p.tables.exec = Jvm.exec) (hb : c.code = cc) (hd : decode cc pc = .ok (.dup, 1)) : ev_Sim p l e R s m args below meth c Q nL D cl A H0 ex ad0 tyOf pc (ev_dup (pc + 1)) := by
  intro st pc' st' h g
  obtain ⟨stk, r⟩ := st
  match stk, h with
  | v :: stk, h =>
    simp only [ev_dup] at h
    cases hv : ev_long v with
    | true => rw [hv] at h; cases h
    | false =>
      rw [hv] at h
      cases h
      intro H locs ls lv sv ws tys hK hP hD hS hh hl hn hL hs
      obtain ⟨w, q, rfl, hw, hq⟩ := hs
      exact lv_dup hx hb hd (ev_cat hw hv) (g H locs ls lv (w :: w :: q) ws tys hK hP hD hS hh hl hn hL ⟨_, _, rfl, hw, _, _, rfl, hw, hq⟩)
theorem ev_pop_ok (hx : p.tables.exec = Jvm.exec) (hb : c.code = cc) (hd : decode cc pc = .ok (.pop, 1)) : ev_Sim p l e R s m args below meth c Q nL D cl A H0 ex ad0 tyOf pc (ev_pop (pc + 1)) := by
  intro st pc' st' h g
  obtain ⟨stk, r⟩ := st
  match stk, h with
  | v :: stk, h =>
    simp only [ev_pop] at h
    cases hv : ev_long v with
    | true => rw [hv] at h; cases h
    | false =>
      rw [hv] at h
      cases h
      intro H locs ls lv sv ws tys hK hP hD hS hh hl hn hL hs
      obtain ⟨w, q, rfl, hw, hq⟩ := hs
      exact lv_pop hx hb hd (ev_cat hw hv) (g H locs ls lv q ws tys hK hP hD hS hh hl hn hL hq)
/-- the locals behind a store -/
theorem ev_lR_set {ad : List Nat} {L : List (Option ev_V)} {lv : List (Nat × Value)} {i : Nat} {v : ev_V} {w : Value} (h : ev_lR ad ex L lv) (hf : ev_free L i = true) (hw : ev_vR ad ex v w) : ev_lR ad ex (L.set i (some v)) ((i, w) :: lv.filter (fun q => !(q.1 == i) && !(q.1 + 1 == i && q.2.category == 2))) := by
  intro j u hj
  by_cases hij : i = j
  · subst hij
    have hlt : i < L.length := by
      have h1 := (List.getElem?_eq_some_iff.mp hj).1
      rwa [List.length_set] at h1
    rw [List.getElem?_set_self hlt] at hj
    cases hj
    exact ⟨w, List.mem_cons_self, hw⟩
  · rw [List.getElem?_set_ne hij] at hj
    obtain ⟨x, hx, hr⟩ := h j u hj
    refine ⟨x, List.mem_cons_of_mem _ (List.mem_filter.mpr ⟨hx, ?_⟩), hr⟩
    have h1 : (j == i) = false := by simpa using fun q => hij q.symm
    have h2 : (j + 1 == i && x.category == 2) = false := by
      cases hji : j + 1 == i with
      | false => rfl
      | true =>
        have e1 : j + 1 = i := by simpa using hji
        subst e1
        simp only [ev_free, ev_lg_eq, hj] at hf
        have hlong : ev_long u = false := by
          match u, hf with
          | .inl _, _ => rfl
          | .inr (.inr _), _ => rfl
        rw [ev_cat hr hlong]
        rfl
    simp only [h1, h2, Bool.not_false, Bool.and_self]
theorem ev_istore_i {st st' : ev_S} {n i pc' : Nat} (h : ev_istore n i st = some (pc', st')) : ∃ v stk, st.1 = .inl v :: stk ∧ ev_free st.2.1 i = true ∧ i < st.2.1.length ∧ pc' = n ∧ st' = (stk, st.2.1.set i (some (.inl v)), st.2.2) := by
  obtain ⟨stk, L, r⟩ := st
  match stk, h with
  | .inl v :: stk, h =>
    simp only [ev_istore] at h
    cases hf : ev_free L i with
    | false => rw [hf] at h; cases h
    | true =>
      rw [hf] at h
      simp only [cond_true, ev_ls_eq] at h
      by_cases hi : i < L.length
      · rw [if_pos hi] at h
        cases h
        exact ⟨v, stk, rfl, rfl, hi, rfl, rfl⟩
      · rw [if_neg hi] at h
        cases h
theorem ev_astore_i {st st' : ev_S} {n i pc' : Nat} (h : ev_astore n i st = some (pc', st')) : ∃ v stk, st.1 = .inr (.inr v) :: stk ∧ ev_free st.2.1 i = true ∧ i < st.2.1.length ∧ pc' = n ∧ st' = (stk, st.2.1.set i (some (.inr (.inr v))), st.2.2) := by
  obtain ⟨stk, L, r⟩ := st
  match stk, h with
  | .inr (.inr v) :: stk, h =>
    simp only [ev_astore] at h
    cases hf : ev_free L i with
    | false => rw [hf] at h; cases h
    | true =>
      rw [hf] at h
      simp only [cond_true, ev_ls_eq] at h
      by_cases hi : i < L.length
      · rw [if_pos hi] at h
        cases h
        exact ⟨v, stk, rfl, rfl, hi, rfl, rfl⟩
      · rw [if_neg hi] at h
        cases h
theorem ev_istore_n_ok (hx : p.tables.exec = Jvm.exec) (hb : c.code = cc) {k : Fin 4} {i : Nat} (hd : decode cc pc = .ok (.istore_n k, 1)) (hi : (k : Nat) = i) : ev_Sim p l e R s m args below meth c Q nL D cl A H0 ex ad0 tyOf pc (ev_istore (pc + 1) i) := by
  intro st pc' st' h g
  obtain ⟨v, stk, e1, hf, hlt, rfl, rfl⟩ := ev_istore_i h
  intro H locs ls lv sv ws tys hK hP hD hS hh hl hn hL hs
  rw [e1] at hs
  obtain ⟨w, q, rfl, ⟨x, rfl, h1, h2⟩, hq⟩ := hs
  exact lv_istore_n hx hb hd hi hl (by rw [← hn]; exact hlt) rfl (fun ls' hl' => g H locs ls' _ q ws tys hK hP hD hS hh hl' (by rw [List.length_set]; exact hn) (ev_lR_set hL hf ⟨x, rfl, h1, h2⟩) hq)
theorem ev_istore_ok (hx : p.tables.exec = Jvm.exec) (hb : c.code = cc) {i : Nat} (hd : decode cc pc = .ok (.istore i, 2)) : ev_Sim p l e R s m args below meth c Q nL D cl A H0 ex ad0 tyOf pc (ev_istore (pc + 2) i) := by
  intro st pc' st' h g
  obtain ⟨v, stk, e1, hf, hlt, rfl, rfl⟩ := ev_istore_i h
  intro H locs ls lv sv ws tys hK hP hD hS hh hl hn hL hs
  rw [e1] at hs
  obtain ⟨w, q, rfl, ⟨x, rfl, h1, h2⟩, hq⟩ := hs
  exact lv_istore hx hb hd hl (by rw [← hn]; exact hlt) rfl (fun ls' hl' => g H locs ls' _ q ws tys hK hP hD hS hh hl' (by rw [List.length_set]; exact hn) (ev_lR_set hL hf ⟨x, rfl, h1, h2⟩) hq)
theorem ev_astore_n_ok (hx : p.tables.exec = Jvm.exec) (hb : c.code = cc) {k : Fin 4} {i : Nat} (hd : decode cc pc = .ok (.astore_n k, 1)) (hi : (k : Nat) = i) : ev_Sim p l e R s m args below meth c Q nL D cl A H0 ex ad0 tyOf pc (ev_astore (pc + 1) i) := by
  intro st pc' st' h g
  obtain ⟨v, stk, e1, hf, hlt, rfl, rfl⟩ := ev_astore_i h
  intro H locs ls lv sv ws tys hK hP hD hS hh hl hn hL hs
  rw [e1] at hs
  obtain ⟨w, q, rfl, hw, hq⟩ := hs
  rcases ev_rf hw with ⟨rfl, -⟩ | ⟨a, rfl, -⟩
  · exact lv_astore_nN hx hb hd hi hl (by rw [← hn]; exact hlt) rfl (fun ls' hl' => g H locs ls' _ q ws tys hK hP hD hS hh hl' (by rw [List.length_set]; exact hn) (ev_lR_set hL hf hw) hq)
  · exact lv_astore_n hx hb hd hi hl (by rw [← hn]; exact hlt) rfl (fun ls' hl' => g H locs ls' _ q ws tys hK hP hD hS hh hl' (by rw [List.length_set]; exact hn) (ev_lR_set hL hf hw) hq)
theorem ev_astore_ok (hx : p.tables.exec = Jvm.exec) (hb : c.code = cc) {i : Nat} (hd : decode cc pc = .ok (.astore i, 2)) : ev_Sim p l e R s m args below meth c Q nL D cl A H0 ex ad0 tyOf pc (ev_astore (pc + 2) i) := by
  intro st pc' st' h g
  obtain ⟨v, stk, e1, hf, hlt, rfl, rfl⟩ := ev_astore_i h
  intro H locs ls lv sv ws tys hK hP hD hS hh hl hn hL hs
  rw [e1] at hs
  obtain ⟨w, q, rfl, hw, hq⟩ := hs
  rcases ev_rf hw with ⟨rfl, -⟩ | ⟨a, rfl, -⟩
  · exact lv_astoreN hx hb hd hl (by rw [← hn]; exact hlt) rfl (fun ls' hl' => g H locs ls' _ q ws tys hK hP hD hS hh hl' (by rw [List.length_set]; exact hn) (ev_lR_set hL hf hw) hq)
  · exact lv_astore hx hb hd hl (by rw [← hn]; exact hlt) rfl (fun ls' hl' => g H locs ls' _ q ws tys hK hP hD hS hh hl' (by rw [List.length_set]; exact hn) (ev_lR_set hL hf hw) hq)
end EvA
end
section
/-! BRANCHES AND ARITHMETIC. -/
def ev_relP (k : Nat) (x y : Int) : Prop := match k with
  | 0 => x = y
  | 1 => ¬ x = y
  | 2 => x < y
  | 3 => y ≤ x
  | 4 => y < x
  | 5 => x ≤ y
  | _ => False
theorem ev_not_i {b : Option Bool} {r : Bool} (h : ev_not b = some r) : b = some (!r) := by
  match b, h with
  | some true, h => cases h; rfl
  | some false, h => cases h; rfl
theorem ev_rel_ok {k : Nat} {a b : Int × Int} {x y : Int} {r : Bool} (h : ev_rel k a b = some r) (ha : a.1 ≤ x) (ha2 : x ≤ a.2) (hb : b.1 ≤ y) (hb2 : y ≤ b.2) : (r = true → ev_relP k x y) ∧ (r = false → ¬ ev_relP k x y) := by
  match k, h with
  | 0, h =>
    refine ⟨fun e => ?_, fun e => ?_⟩ <;> subst e
    · exact ev_eq_t h ha ha2 hb hb2
    · exact ev_eq_f h ha ha2 hb hb2
  | 1, h =>
    refine ⟨fun e => ?_, fun e => ?_⟩ <;> subst e
    · exact ev_eq_f (ev_not_i h) ha ha2 hb hb2
    · exact fun z => z (ev_eq_t (ev_not_i h) ha ha2 hb hb2)
  | 2, h =>
    refine ⟨fun e => ?_, fun e => ?_⟩ <;> subst e
    · exact ev_lt_t h ha2 hb
    · exact ev_lt_f h ha hb2
  | 3, h =>
    refine ⟨fun e => ?_, fun e => ?_⟩ <;> subst e
    · exact Int.not_lt.mp (ev_lt_f (ev_not_i h) ha hb2)
    · exact Int.not_le.mpr (ev_lt_t (ev_not_i h) ha2 hb)
  | 4, h =>
    refine ⟨fun e => ?_, fun e => ?_⟩ <;> subst e
    · exact ev_lt_t h hb2 ha
    · exact ev_lt_f h hb ha2
  | 5, h =>
    refine ⟨fun e => ?_, fun e => ?_⟩ <;> subst e
    · exact Int.not_lt.mp (ev_lt_f (ev_not_i h) hb ha2)
    · exact Int.not_le.mpr (ev_lt_t (ev_not_i h) hb2 ha)
/-- two ints on the stack to one: known ones are reckoned -/
def ev_bin (f : Int → Int → Int) (n : Nat) : ev_I := fun st => match st with
  | (.inl (b1, b2) :: .inl (a1, a2) :: stk, r) => cond (decide (a1 = a2) && decide (b1 = b2)) (ev_fI (f a1 b1) (fun z => some (n, (.inl (z, z) :: stk, r)))) (some (n, (ev_any :: stk, r)))
  | _ => none
def ev_add (x y : Int) : Int := Int.bmod (x + y) 4294967296
def ev_sub (x y : Int) : Int := Int.bmod (x - y) 4294967296
def ev_mul (x y : Int) : Int := Int.bmod (x * y) 4294967296
def ev_u (x : Int) : Nat := (x % 4294967296).toNat
def ev_and (x y : Int) : Int := Int.bmod ((Nat.land (ev_u x) (ev_u y) : Nat) : Int) 4294967296
def ev_xor (x y : Int) : Int := Int.bmod ((Nat.xor (ev_u x) (ev_u y) : Nat) : Int) 4294967296
/-- two ints to one of which nothing is said; nothing of zero shifted is zero -/
def ev_shr (n : Nat) : ev_I := fun st => match st with
  | (.inl _ :: .inl _ :: stk, r) => some (n, (ev_any :: stk, r))
  | _ => none
def ev_ushr (n : Nat) : ev_I := fun st => match st with
  | (.inl _ :: .inl (a1, a2) :: stk, r) => cond (decide (a1 = 0) && decide (a2 = 0)) (some (n, (ev_int 0 :: stk, r))) (some (n, (ev_any :: stk, r)))
  | _ => none
/-- an int to an int: known ones are reckoned, others lie from lo to hi -/
def ev_un (f : Int → Int) (lo hi : Int) (n : Nat) : ev_I := fun st => match st with
  | (.inl (a1, a2) :: stk, r) => cond (decide (a1 = a2)) (ev_fI (f a1) (fun z => some (n, (.inl (z, z) :: stk, r)))) (some (n, (.inl (lo, hi) :: stk, r)))
  | _ => none
def ev_b8 (x : Int) : Int := Int.bmod x 256
def ev_c16 (x : Int) : Int := x % 65536
def ev_i2l (n : Nat) : ev_I := fun st => match st with
  | (.inl v :: stk, r) => some (n, (.inr (.inl v) :: stk, r))
  | _ => none
def ev_l2i (n : Nat) : ev_I := fun st => match st with
  | (.inr (.inl (a1, a2)) :: stk, r) => cond (decide (-2147483648 ≤ a1) && decide (a2 ≤ 2147483647)) (some (n, (.inl (a1, a2) :: stk, r))) (some (n, (ev_any :: stk, r)))
  | _ => none
def ev_ladd (n : Nat) : ev_I := fun st => match st with
  | (.inr (.inl (b1, b2)) :: .inr (.inl (a1, a2)) :: stk, r) => cond (decide (-9223372036854775808 ≤ a1 + b1) && decide (a2 + b2 ≤ 9223372036854775807)) (ev_fI (a1 + b1) (fun z => ev_fI (a2 + b2) (fun z2 => some (n, (.inr (.inl (z, z2)) :: stk, r))))) none
  | _ => none
def ev_lcmp (n : Nat) : ev_I := fun st => match st with
  | (.inr (.inl b) :: .inr (.inl a) :: stk, r) => match ev_lt a b with
    | some true => some (n, (ev_int (-1) :: stk, r))
    | _ => match ev_lt b a with
      | some true => some (n, (ev_int 1 :: stk, r))
      | _ => match ev_eq a b with
        | some true => some (n, (ev_int 0 :: stk, r))
        | _ => none
  | _ => none
theorem ev_u_eq (x : Int32) : ev_u x.toInt = x.toBitVec.toNat := by
  unfold ev_u
  rw [show x.toInt = x.toBitVec.toInt from rfl, BitVec.toInt_eq_toNat_cond]
  have h := x.toBitVec.isLt
  split <;> omega
theorem ev_and_ok (x y : Int32) : (x &&& y).toInt = ev_and x.toInt y.toInt := by
  unfold ev_and
  rw [ev_u_eq, ev_u_eq]
  rw [show (x &&& y).toInt = (x &&& y).toBitVec.toInt from rfl, BitVec.toInt_eq_toNat_bmod, Int32.toBitVec_and, BitVec.toNat_and]
  rfl
theorem ev_xor_ok (x y : Int32) : (x ^^^ y).toInt = ev_xor x.toInt y.toInt := by
  unfold ev_xor
  rw [ev_u_eq, ev_u_eq]
  rw [show (x ^^^ y).toInt = (x ^^^ y).toBitVec.toInt from rfl, BitVec.toInt_eq_toNat_bmod, Int32.toBitVec_xor, BitVec.toNat_xor]
  rfl
theorem ev_in (x : Int32) : -2147483648 ≤ x.toInt ∧ x.toInt ≤ 2147483647 := by
  have h1 := Int32.le_toInt x
  have h2 := Int32.toInt_lt x
  omega
theorem ev_c16_ok (x : Int32) : ((x.toUInt32 % 65536).toInt32).toInt = ev_c16 x.toInt := by
  rw [pk_char x]
  have h := x.toBitVec.isLt
  rw [nI_toInt (by omega)]
  unfold ev_c16
  rw [show x.toInt = x.toBitVec.toInt from rfl, BitVec.toInt_eq_toNat_cond]
  split <;> omega
theorem ev_b8_ok (x : Int32) : (x.toInt8.toInt32).toInt = ev_b8 x.toInt := by
  rw [Int8.toInt_toInt32, Int32.toInt_toInt8]
  rfl
theorem ev_b8_in (x : Int32) : -128 ≤ (x.toInt8.toInt32).toInt ∧ (x.toInt8.toInt32).toInt ≤ 127 := by
  rw [ev_b8_ok]
  unfold ev_b8
  rw [Int.bmod_def]
  split <;> omega
theorem ev_c16_in (x : Int32) : 0 ≤ ((x.toUInt32 % 65536).toInt32).toInt ∧ ((x.toUInt32 % 65536).toInt32).toInt ≤ 65535 := by
  rw [ev_c16_ok]
  unfold ev_c16
  omega
section EvB
variable {p : Program} {l : Launch} {e : Env} {R : Room} {s : State} {m : MethodId} {args : Array Value} {below : List Frame} {meth : Method} {c : Code} {Q : State → Prop} {nL : Nat} {D : va_G} {cl : List vw_C} {A : Nat → Prop} {H0 : Heap} {ex : Nat → Value} {ad0 : List Nat} {tyOf : Nat → FieldType}
variable {cc : ByteArray} {pc : Nat}
theorem ev_to_i {n t : Nat} {b : Option Bool} {st st' : ev_S} {pc' : Nat} (h : ev_to n t b st = some (pc', st')) : ∃ r, b = some r ∧ pc' = (if r then t else n) ∧ st' = st := by
  match b, h with
  | some true, h => cases h; exact ⟨true, rfl, rfl, rfl⟩
  | some false, h => cases h; exact ⟨false, rfl, rfl, rfl⟩
theorem ev_icmp_gen {k n t : Nat} {P : Int32 → Int32 → Prop} (hP : ∀ x y : Int32, P x y ↔ ev_relP k x.toInt y.toInt)
    (row : ∀ (H : Heap) (locs : List Loc) (cells slots : Nat) (ls : Array Slot) (rest : List Value) (x y : Int32), (P x y → W p l e R s m args below meth c H locs cells slots Q (F0 m t ls rest)) → (¬ P x y → W p l e R s m args below meth c H locs cells slots Q (F0 m n ls rest)) → W p l e R s m args below meth c H locs cells slots Q (F0 m pc ls (.int y :: .int x :: rest))) : ev_Sim p l e R s m args below meth c Q nL D cl A H0 ex ad0 tyOf pc (ev_icmp k n t) := by
  intro st pc' st' h g
  obtain ⟨stk, r⟩ := st
  match stk, h with
  | .inl b :: .inl a :: stk, h =>
    obtain ⟨q, e1, rfl, rfl⟩ := ev_to_i h
    intro H locs ls lv sv ws tys hK hPP hD hS hh hl hn hL hs
    obtain ⟨w, r1, rfl, ⟨y, rfl, hy1, hy2⟩, w2, r2, rfl, ⟨x, rfl, hx1, hx2⟩, hs⟩ := hs
    obtain ⟨f1, f2⟩ := ev_rel_ok e1 hx1 hx2 hy1 hy2
    refine row H locs _ _ ls r2 x y (fun z => ?_) (fun z => ?_)
    · cases q with
      | true => exact g H locs ls lv r2 ws tys hK hPP hD hS hh hl hn hL hs
      | false => exact absurd ((hP x y).mp z) (f2 rfl)
    · cases q with
      | true => exact absurd ((hP x y).mpr (f1 rfl)) z
      | false => exact g H locs ls lv r2 ws tys hK hPP hD hS hh hl hn hL hs
theorem ev_if_gen {k n t : Nat} {P : Int32 → Prop} (hP : ∀ x : Int32, P x ↔ ev_relP k x.toInt 0)
    (row : ∀ (H : Heap) (locs : List Loc) (cells slots : Nat) (ls : Array Slot) (rest : List Value) (x : Int32), (P x → W p l e R s m args below meth c H locs cells slots Q (F0 m t ls rest)) → (¬ P x → W p l e R s m args below meth c H locs cells slots Q (F0 m n ls rest)) → W p l e R s m args below meth c H locs cells slots Q (F0 m pc ls (.int x :: rest))) : ev_Sim p l e R s m args below meth c Q nL D cl A H0 ex ad0 tyOf pc (ev_if k n t) := by
  intro st pc' st' h g
  obtain ⟨stk, r⟩ := st
  match stk, h with
  | .inl a :: stk, h =>
    obtain ⟨q, e1, rfl, rfl⟩ := ev_to_i h
    intro H locs ls lv sv ws tys hK hPP hD hS hh hl hn hL hs
    obtain ⟨w2, r2, rfl, ⟨x, rfl, hx1, hx2⟩, hs⟩ := hs
    obtain ⟨f1, f2⟩ := ev_rel_ok e1 hx1 hx2 (Int.le_refl 0) (Int.le_refl 0)
    refine row H locs _ _ ls r2 x (fun z => ?_) (fun z => ?_)
    · cases q with
      | true => exact g H locs ls lv r2 ws tys hK hPP hD hS hh hl hn hL hs
      | false => exact absurd ((hP x).mp z) (f2 rfl)
    · cases q with
      | true => exact absurd ((hP x).mpr (f1 rfl)) z
      | false => exact g H locs ls lv r2 ws tys hK hPP hD hS hh hl hn hL hs
theorem ev_icmp_eq_ok (hx : p.tables.exec = Jvm.exec) (hb : c.code = cc) {off : Int} {t : Nat} (hd : decode cc pc = .ok (.if_icmp .eq off, 3)) (ht : (pc : Int) + off = (t : Int)) : ev_Sim p l e R s m args below meth c Q nL D cl A H0 ex ad0 tyOf pc (ev_icmp 0 (pc + 3) t) :=
  ev_icmp_gen (P := fun x y => x = y) (fun x y => Int32.toInt_inj.symm) (fun _ _ _ _ _ _ _ _ kt kf => lv_icmp_eq hx hb hd ht kt kf)
theorem ev_icmp_ne_ok (hx : p.tables.exec = Jvm.exec) (hb : c.code = cc) {off : Int} {t : Nat} (hd : decode cc pc = .ok (.if_icmp .ne off, 3)) (ht : (pc : Int) + off = (t : Int)) : ev_Sim p l e R s m args below meth c Q nL D cl A H0 ex ad0 tyOf pc (ev_icmp 1 (pc + 3) t) :=
  ev_icmp_gen (P := fun x y => ¬ x = y) (fun x y => not_congr Int32.toInt_inj.symm) (fun _ _ _ _ _ _ _ _ kt kf => lv_icmp_ne hx hb hd ht kt (fun z => kf (fun w => w z)))
theorem ev_icmp_lt_ok (hx : p.tables.exec = Jvm.exec) (hb : c.code = cc) {off : Int} {t : Nat} (hd : decode cc pc = .ok (.if_icmp .lt off, 3)) (ht : (pc : Int) + off = (t : Int)) : ev_Sim p l e R s m args below meth c Q nL D cl A H0 ex ad0 tyOf pc (ev_icmp 2 (pc + 3) t) :=
  ev_icmp_gen (P := fun x y => x < y) (fun x y => Int32.lt_iff_toInt_lt) (fun _ _ _ _ _ _ _ _ kt kf => lv_icmp_lt hx hb hd ht kt kf)
theorem ev_icmp_ge_ok (hx : p.tables.exec = Jvm.exec) (hb : c.code = cc) {off : Int} {t : Nat} (hd : decode cc pc = .ok (.if_icmp .ge off, 3)) (ht : (pc : Int) + off = (t : Int)) : ev_Sim p l e R s m args below meth c Q nL D cl A H0 ex ad0 tyOf pc (ev_icmp 3 (pc + 3) t) :=
  ev_icmp_gen (P := fun x y => y ≤ x) (fun x y => Int32.le_iff_toInt_le) (fun _ _ _ _ _ _ _ _ kt kf => lv_icmp_ge hx hb hd ht kt kf)
theorem ev_icmp_gt_ok (hx : p.tables.exec = Jvm.exec) (hb : c.code = cc) {off : Int} {t : Nat} (hd : decode cc pc = .ok (.if_icmp .gt off, 3)) (ht : (pc : Int) + off = (t : Int)) : ev_Sim p l e R s m args below meth c Q nL D cl A H0 ex ad0 tyOf pc (ev_icmp 4 (pc + 3) t) :=
  ev_icmp_gen (P := fun x y => y < x) (fun x y => Int32.lt_iff_toInt_lt) (fun _ _ _ _ _ _ _ _ kt kf => lv_icmp_gt hx hb hd ht kt kf)
theorem ev_icmp_le_ok (hx : p.tables.exec = Jvm.exec) (hb : c.code = cc) {off : Int} {t : Nat} (hd : decode cc pc = .ok (.if_icmp .le off, 3)) (ht : (pc : Int) + off = (t : Int)) : ev_Sim p l e R s m args below meth c Q nL D cl A H0 ex ad0 tyOf pc (ev_icmp 5 (pc + 3) t) :=
  ev_icmp_gen (P := fun x y => x ≤ y) (fun x y => Int32.le_iff_toInt_le) (fun _ _ _ _ _ _ _ _ kt kf => lv_icmp_le hx hb hd ht kt kf)
theorem ev_if_eq_ok (hx : p.tables.exec = Jvm.exec) (hb : c.code = cc) {off : Int} {t : Nat} (hd : decode cc pc = .ok (.ifCond .eq off, 3)) (ht : (pc : Int) + off = (t : Int)) : ev_Sim p l e R s m args below meth c Q nL D cl A H0 ex ad0 tyOf pc (ev_if 0 (pc + 3) t) :=
  ev_if_gen (P := fun x => x = 0) (fun x => (Int32.toInt_inj (y := 0)).symm) (fun _ _ _ _ _ _ _ kt kf => lv_if_eq hx hb hd ht kt kf)
theorem ev_if_ne_ok (hx : p.tables.exec = Jvm.exec) (hb : c.code = cc) {off : Int} {t : Nat} (hd : decode cc pc = .ok (.ifCond .ne off, 3)) (ht : (pc : Int) + off = (t : Int)) : ev_Sim p l e R s m args below meth c Q nL D cl A H0 ex ad0 tyOf pc (ev_if 1 (pc + 3) t) :=
  ev_if_gen (P := fun x => ¬ x = 0) (fun x => not_congr (Int32.toInt_inj (y := 0)).symm) (fun _ _ _ _ _ _ _ kt kf => lv_if_ne hx hb hd ht kt (fun z => kf (fun w => w z)))
theorem ev_if_lt_ok (hx : p.tables.exec = Jvm.exec) (hb : c.code = cc) {off : Int} {t : Nat} (hd : decode cc pc = .ok (.ifCond .lt off, 3)) (ht : (pc : Int) + off = (t : Int)) : ev_Sim p l e R s m args below meth c Q nL D cl A H0 ex ad0 tyOf pc (ev_if 2 (pc + 3) t) :=
  ev_if_gen (P := fun x => x < 0) (fun x => Int32.lt_iff_toInt_lt (y := 0)) (fun _ _ _ _ _ _ _ kt kf => lv_if_lt hx hb hd ht kt kf)
theorem ev_if_ge_ok (hx : p.tables.exec = Jvm.exec) (hb : c.code = cc) {off : Int} {t : Nat} (hd : decode cc pc = .ok (.ifCond .ge off, 3)) (ht : (pc : Int) + off = (t : Int)) : ev_Sim p l e R s m args below meth c Q nL D cl A H0 ex ad0 tyOf pc (ev_if 3 (pc + 3) t) :=
  ev_if_gen (P := fun x => 0 ≤ x) (fun x => Int32.le_iff_toInt_le (x := 0)) (fun _ _ _ _ _ _ _ kt kf => lv_if_ge hx hb hd ht kt kf)
theorem ev_if_gt_ok (hx : p.tables.exec = Jvm.exec) (hb : c.code = cc) {off : Int} {t : Nat} (hd : decode cc pc = .ok (.ifCond .gt off, 3)) (ht : (pc : Int) + off = (t : Int)) : ev_Sim p l e R s m args below meth c Q nL D cl A H0 ex ad0 tyOf pc (ev_if 4 (pc + 3) t) :=
  ev_if_gen (P := fun x => 0 < x) (fun x => Int32.lt_iff_toInt_lt (x := 0)) (fun _ _ _ _ _ _ _ kt kf => lv_if_gt hx hb hd ht kt kf)
theorem ev_if_le_ok (hx : p.tables.exec = Jvm.exec) (hb : c.code = cc) {off : Int} {t : Nat} (hd : decode cc pc = .ok (.ifCond .le off, 3)) (ht : (pc : Int) + off = (t : Int)) : ev_Sim p l e R s m args below meth c Q nL D cl A H0 ex ad0 tyOf pc (ev_if 5 (pc + 3) t) :=
  ev_if_gen (P := fun x => x ≤ 0) (fun x => Int32.le_iff_toInt_le (y := 0)) (fun _ _ _ _ _ _ _ kt kf => lv_if_le hx hb hd ht kt kf)
theorem ev_ifnull_ok (hx : p.tables.exec = Jvm.exec) (hb : c.code = cc) {off : Int} {t : Nat} (hd : decode cc pc = .ok (.ifnull off, 3)) (ht : (pc : Int) + off = (t : Int)) : ev_Sim p l e R s m args below meth c Q nL D cl A H0 ex ad0 tyOf pc (ev_ifnull (pc + 3) t) := by
  intro st pc' st' h g
  obtain ⟨stk, r⟩ := st
  match stk, h with
  | .inr (.inr none) :: stk, h =>
    cases h
    intro H locs ls lv sv ws tys hK hP hD hS hh hl hn hL hs
    obtain ⟨w, q, rfl, hw, hq⟩ := hs
    rw [show w = Value.null from hw]
    exact lv_ifnullN hx hb hd ht (g H locs ls lv q ws tys hK hP hD hS hh hl hn hL hq)
  | .inr (.inr (some (.inl u))) :: stk, h =>
    cases h
    intro H locs ls lv sv ws tys hK hP hD hS hh hl hn hL hs
    obtain ⟨w, q, rfl, hw, hq⟩ := hs
    obtain ⟨a, -, rfl⟩ := hw
    exact lv_ifnull hx hb hd (g H locs ls lv q ws tys hK hP hD hS hh hl hn hL hq)
theorem ev_ifnonnull_ok (hx : p.tables.exec = Jvm.exec) (hb : c.code = cc) {off : Int} {t : Nat} (hd : decode cc pc = .ok (.ifnonnull off, 3)) (ht : (pc : Int) + off = (t : Int)) : ev_Sim p l e R s m args below meth c Q nL D cl A H0 ex ad0 tyOf pc (ev_ifnonnull (pc + 3) t) := by
  intro st pc' st' h g
  obtain ⟨stk, r⟩ := st
  match stk, h with
  | .inr (.inr none) :: stk, h =>
    cases h
    intro H locs ls lv sv ws tys hK hP hD hS hh hl hn hL hs
    obtain ⟨w, q, rfl, hw, hq⟩ := hs
    rw [show w = Value.null from hw]
    exact lv_ifnonnullN hx hb hd (g H locs ls lv q ws tys hK hP hD hS hh hl hn hL hq)
  | .inr (.inr (some (.inl u))) :: stk, h =>
    cases h
    intro H locs ls lv sv ws tys hK hP hD hS hh hl hn hL hs
    obtain ⟨w, q, rfl, hw, hq⟩ := hs
    obtain ⟨a, -, rfl⟩ := hw
    exact lv_ifnonnull hx hb hd ht (g H locs ls lv q ws tys hK hP hD hS hh hl hn hL hq)
theorem ev_bin_gen {f : Int → Int → Int} {op : Int32 → Int32 → Int32} {n : Nat} (hop : ∀ x y : Int32, (op x y).toInt = f x.toInt y.toInt)
    (row : ∀ (H : Heap) (locs : List Loc) (cells slots : Nat) (ls : Array Slot) (rest : List Value) (x y : Int32), W p l e R s m args below meth c H locs cells slots Q (F0 m n ls (.int (op x y) :: rest)) → W p l e R s m args below meth c H locs cells slots Q (F0 m pc ls (.int y :: .int x :: rest))) : ev_Sim p l e R s m args below meth c Q nL D cl A H0 ex ad0 tyOf pc (ev_bin f n) := by
  intro st pc' st' h g
  obtain ⟨stk, r⟩ := st
  match stk, h with
  | .inl (b1, b2) :: .inl (a1, a2) :: stk, h =>
    simp only [ev_bin, ev_fI_eq] at h
    intro H locs ls lv sv ws tys hK hP hD hS hh hl hn hL hs
    obtain ⟨w, r1, rfl, ⟨y, rfl, hy1, hy2⟩, w2, r2, rfl, ⟨x, rfl, hx1, hx2⟩, hs⟩ := hs
    refine row H locs _ _ ls r2 x y ?_
    by_cases q : a1 = a2
    · by_cases q2 : b1 = b2
      · rw [decide_eq_true q, decide_eq_true q2] at h
        cases h
        have ex9 : x.toInt = a1 := by omega
        have ey9 : y.toInt = b1 := by omega
        have e9 : (op x y).toInt = f a1 b1 := by rw [hop, ex9, ey9]
        exact g H locs ls lv (.int (op x y) :: r2) ws tys hK hP hD hS hh hl hn hL ⟨_, _, rfl, ⟨_, rfl, by rw [e9]; exact Int.le_refl _, by rw [e9]; exact Int.le_refl _⟩, hs⟩
      · rw [decide_eq_false q2, Bool.and_false] at h
        cases h
        exact g H locs ls lv (.int (op x y) :: r2) ws tys hK hP hD hS hh hl hn hL ⟨_, _, rfl, ⟨_, rfl, ev_in _⟩, hs⟩
    · rw [decide_eq_false q] at h
      cases h
      exact g H locs ls lv (.int (op x y) :: r2) ws tys hK hP hD hS hh hl hn hL ⟨_, _, rfl, ⟨_, rfl, ev_in _⟩, hs⟩
theorem ev_iadd_ok (hx : p.tables.exec = Jvm.exec) (hb : c.code = cc) (hd : decode cc pc = .ok (.iadd, 1)) : ev_Sim p l e R s m args below meth c Q nL D cl A H0 ex ad0 tyOf pc (ev_bin ev_add (pc + 1)) :=
  ev_bin_gen (op := fun x y => x + y) (fun x y => Int32.toInt_add x y) (fun _ _ _ _ _ _ _ _ k => lv_iadd hx hb hd k)
theorem ev_isub_ok (hx : p.tables.exec = Jvm.exec) (hb : c.code = cc) (hd : decode cc pc = .ok (.isub, 1)) : ev_Sim p l e R s m args below meth c Q nL D cl A H0 ex ad0 tyOf pc (ev_bin ev_sub (pc + 1)) :=
  ev_bin_gen (op := fun x y => x - y) (fun x y => Int32.toInt_sub x y) (fun _ _ _ _ _ _ _ _ k => lv_isub hx hb hd k)
theorem ev_imul_ok (hx : p.tables.exec = Jvm.exec) (hb : c.code = cc) (hd : decode cc pc = .ok (.imul, 1)) : ev_Sim p l e R s m args below meth c Q nL D cl A H0 ex ad0 tyOf pc (ev_bin ev_mul (pc + 1)) :=
  ev_bin_gen (op := fun x y => x * y) (fun x y => Int32.toInt_mul x y) (fun _ _ _ _ _ _ _ _ k => lv_imul hx hb hd k)
theorem ev_iand_ok (hx : p.tables.exec = Jvm.exec) (hb : c.code = cc) (hd : decode cc pc = .ok (.iand, 1)) : ev_Sim p l e R s m args below meth c Q nL D cl A H0 ex ad0 tyOf pc (ev_bin ev_and (pc + 1)) :=
  ev_bin_gen (op := fun x y => x &&& y) (fun x y => ev_and_ok x y) (fun _ _ _ _ _ _ _ _ k => lv_iand hx hb hd k)
theorem ev_ixor_ok (hx : p.tables.exec = Jvm.exec) (hb : c.code = cc) (hd : decode cc pc = .ok (.ixor, 1)) : ev_Sim p l e R s m args below meth c Q nL D cl A H0 ex ad0 tyOf pc (ev_bin ev_xor (pc + 1)) :=
  ev_bin_gen (op := fun x y => x ^^^ y) (fun x y => ev_xor_ok x y) (fun _ _ _ _ _ _ _ _ k => lv_ixor hx hb hd k)
theorem ev_ishr_ok (hx : p.tables.exec = Jvm.exec) (hb : c.code = cc) (hd : decode cc pc = .ok (.ishr, 1)) : ev_Sim p l e R s m args below meth c Q nL D cl A H0 ex ad0 tyOf pc (ev_shr (pc + 1)) := by
  intro st pc' st' h g
  obtain ⟨stk, r⟩ := st
  match stk, h with
  | .inl b :: .inl a :: stk, h =>
    cases h
    intro H locs ls lv sv ws tys hK hP hD hS hh hl hn hL hs
    obtain ⟨w, r1, rfl, ⟨y, rfl, hy1, hy2⟩, w2, r2, rfl, ⟨x, rfl, hx1, hx2⟩, hs⟩ := hs
    exact lv_ishr hx hb hd (g H locs ls lv (.int _ :: r2) ws tys hK hP hD hS hh hl hn hL ⟨_, _, rfl, ⟨_, rfl, ev_in _⟩, hs⟩)
theorem ev_ushr0 (y : Int32) : ((0 : Int32).toUInt32 >>> (y.toUInt32 &&& Int32.toUInt32 31)).toInt32 = 0 := by
  have h := pk_ushr 0 y _ rfl
  rw [show (0 : Int32).toBitVec.toNat = 0 from rfl, Nat.zero_div] at h
  exact Int32.toBitVec_inj.mp (BitVec.eq_of_toNat_eq (h.trans rfl))
theorem ev_iushr_ok (hx : p.tables.exec = Jvm.exec) (hb : c.code = cc) (hd : decode cc pc = .ok (.iushr, 1)) : ev_Sim p l e R s m args below meth c Q nL D cl A H0 ex ad0 tyOf pc (ev_ushr (pc + 1)) := by
  intro st pc' st' h g
  obtain ⟨stk, r⟩ := st
  match stk, h with
  | .inl b :: .inl (a1, a2) :: stk, h =>
    simp only [ev_ushr] at h
    intro H locs ls lv sv ws tys hK hP hD hS hh hl hn hL hs
    obtain ⟨w, r1, rfl, ⟨y, rfl, hy1, hy2⟩, w2, r2, rfl, ⟨x, rfl, hx1, hx2⟩, hs⟩ := hs
    refine lv_iushr hx hb hd rfl ?_
    by_cases q : a1 = 0
    · by_cases q2 : a2 = 0
      · rw [decide_eq_true q, decide_eq_true q2] at h
        cases h
        have ex9 : x = 0 := Int32.toInt_inj.mp (show x.toInt = 0 by omega)
        subst ex9
        rw [ev_ushr0]
        exact g H locs ls lv (.int 0 :: r2) ws tys hK hP hD hS hh hl hn hL ⟨_, _, rfl, ⟨0, rfl, Int.le_refl _, Int.le_refl _⟩, hs⟩
      · rw [decide_eq_false q2, Bool.and_false] at h
        cases h
        exact g H locs ls lv (.int _ :: r2) ws tys hK hP hD hS hh hl hn hL ⟨_, _, rfl, ⟨_, rfl, ev_in _⟩, hs⟩
    · rw [decide_eq_false q] at h
      cases h
      exact g H locs ls lv (.int _ :: r2) ws tys hK hP hD hS hh hl hn hL ⟨_, _, rfl, ⟨_, rfl, ev_in _⟩, hs⟩
theorem ev_un_gen {f : Int → Int} {op : Int32 → Int32} {lo hi : Int} {n : Nat} (hop : ∀ x : Int32, (op x).toInt = f x.toInt) (hin : ∀ x : Int32, lo ≤ (op x).toInt ∧ (op x).toInt ≤ hi)
    (row : ∀ (H : Heap) (locs : List Loc) (cells slots : Nat) (ls : Array Slot) (rest : List Value) (x : Int32), W p l e R s m args below meth c H locs cells slots Q (F0 m n ls (.int (op x) :: rest)) → W p l e R s m args below meth c H locs cells slots Q (F0 m pc ls (.int x :: rest))) : ev_Sim p l e R s m args below meth c Q nL D cl A H0 ex ad0 tyOf pc (ev_un f lo hi n) := by
  intro st pc' st' h g
  obtain ⟨stk, r⟩ := st
  match stk, h with
  | .inl (a1, a2) :: stk, h =>
    simp only [ev_un, ev_fI_eq] at h
    intro H locs ls lv sv ws tys hK hP hD hS hh hl hn hL hs
    obtain ⟨w2, r2, rfl, ⟨x, rfl, hx1, hx2⟩, hs⟩ := hs
    refine row H locs _ _ ls r2 x ?_
    by_cases q : a1 = a2
    · rw [decide_eq_true q] at h
      cases h
      have e9 : (op x).toInt = f a1 := by rw [hop, show x.toInt = a1 by omega]
      exact g H locs ls lv (.int (op x) :: r2) ws tys hK hP hD hS hh hl hn hL ⟨_, _, rfl, ⟨_, rfl, by rw [e9]; exact Int.le_refl _, by rw [e9]; exact Int.le_refl _⟩, hs⟩
    · rw [decide_eq_false q] at h
      cases h
      exact g H locs ls lv (.int (op x) :: r2) ws tys hK hP hD hS hh hl hn hL ⟨_, _, rfl, ⟨_, rfl, hin x⟩, hs⟩
theorem ev_i2b_ok (hx : p.tables.exec = Jvm.exec) (hb : c.code = cc) (hd : decode cc pc = .ok (.i2b, 1)) : ev_Sim p l e R s m args below meth c Q nL D cl A H0 ex ad0 tyOf pc (ev_un ev_b8 (-128) 127 (pc + 1)) :=
  ev_un_gen (op := fun x => x.toInt8.toInt32) ev_b8_ok ev_b8_in (fun _ _ _ _ _ _ _ k => lv_i2b hx hb hd rfl k)
theorem ev_i2c_ok (hx : p.tables.exec = Jvm.exec) (hb : c.code = cc) (hd : decode cc pc = .ok (.i2c, 1)) : ev_Sim p l e R s m args below meth c Q nL D cl A H0 ex ad0 tyOf pc (ev_un ev_c16 0 65535 (pc + 1)) :=
  ev_un_gen (op := fun x => (x.toUInt32 % 65536).toInt32) ev_c16_ok ev_c16_in (fun _ _ _ _ _ _ _ k => lv_i2c hx hb hd rfl k)
theorem ev_i2l_ok (hx : p.tables.exec = Jvm.exec) (hb : c.code = cc) (hd : decode cc pc = .ok (.i2l, 1)) : ev_Sim p l e R s m args below meth c Q nL D cl A H0 ex ad0 tyOf pc (ev_i2l (pc + 1)) := by
  intro st pc' st' h g
  obtain ⟨stk, r⟩ := st
  match stk, h with
  | .inl (a1, a2) :: stk, h =>
    cases h
    intro H locs ls lv sv ws tys hK hP hD hS hh hl hn hL hs
    obtain ⟨w2, r2, rfl, ⟨x, rfl, hx1, hx2⟩, hs⟩ := hs
    exact lv_i2l hx hb hd rfl (g H locs ls lv (.long x.toInt64 :: r2) ws tys hK hP hD hS hh hl hn hL ⟨_, _, rfl, ⟨_, rfl, by rw [Int32.toInt_toInt64]; exact hx1, by rw [Int32.toInt_toInt64]; exact hx2⟩, hs⟩)
theorem ev_l2i_ok (hx : p.tables.exec = Jvm.exec) (hb : c.code = cc) (hd : decode cc pc = .ok (.l2i, 1)) : ev_Sim p l e R s m args below meth c Q nL D cl A H0 ex ad0 tyOf pc (ev_l2i (pc + 1)) := by
  intro st pc' st' h g
  obtain ⟨stk, r⟩ := st
  match stk, h with
  | .inr (.inl (a1, a2)) :: stk, h =>
    simp only [ev_l2i] at h
    intro H locs ls lv sv ws tys hK hP hD hS hh hl hn hL hs
    obtain ⟨w2, r2, rfl, ⟨x, rfl, hx1, hx2⟩, hs⟩ := hs
    refine lv_l2i hx hb hd rfl ?_
    by_cases q : -2147483648 ≤ a1 ∧ a2 ≤ 2147483647
    · rw [decide_eq_true q.1, decide_eq_true q.2] at h
      cases h
      have e9 : x.toInt32.toInt = x.toInt := by
        rw [Int64.toInt_toInt32]
        have h1 := q.1
        have h2 := q.2
        rw [show (2 : Nat) ^ 32 = 4294967296 from rfl, Int.bmod_def]
        split <;> omega
      exact g H locs ls lv (.int x.toInt32 :: r2) ws tys hK hP hD hS hh hl hn hL ⟨_, _, rfl, ⟨_, rfl, by rw [e9]; exact hx1, by rw [e9]; exact hx2⟩, hs⟩
    · have hq : (decide (-2147483648 ≤ a1) && decide (a2 ≤ 2147483647)) = false := by
        rw [← Bool.decide_and]
        exact decide_eq_false q
      rw [hq] at h
      cases h
      exact g H locs ls lv (.int x.toInt32 :: r2) ws tys hK hP hD hS hh hl hn hL ⟨_, _, rfl, ⟨_, rfl, ev_in _⟩, hs⟩
theorem ev_ladd_ok (hx : p.tables.exec = Jvm.exec) (hb : c.code = cc) (hd : decode cc pc = .ok (.ladd, 1)) : ev_Sim p l e R s m args below meth c Q nL D cl A H0 ex ad0 tyOf pc (ev_ladd (pc + 1)) := by
  intro st pc' st' h g
  obtain ⟨stk, r⟩ := st
  match stk, h with
  | .inr (.inl (b1, b2)) :: .inr (.inl (a1, a2)) :: stk, h =>
    simp only [ev_ladd, ev_fI_eq] at h
    by_cases q : -9223372036854775808 ≤ a1 + b1 ∧ a2 + b2 ≤ 9223372036854775807
    · rw [decide_eq_true q.1, decide_eq_true q.2] at h
      cases h
      intro H locs ls lv sv ws tys hK hP hD hS hh hl hn hL hs
      obtain ⟨w, r1, rfl, ⟨y, rfl, hy1, hy2⟩, w2, r2, rfl, ⟨x, rfl, hx1, hx2⟩, hs⟩ := hs
      have e9 : (x + y).toInt = x.toInt + y.toInt := by
        rw [Int64.toInt_add]
        have h1 := q.1
        have h2 := q.2
        rw [show (2 : Nat) ^ 64 = 18446744073709551616 from rfl, Int.bmod_def]
        split <;> omega
      exact lv_ladd hx hb hd (g H locs ls lv (.long (x + y) :: r2) ws tys hK hP hD hS hh hl hn hL ⟨_, _, rfl, ⟨_, rfl, by rw [e9]; omega, by rw [e9]; omega⟩, hs⟩)
    · have hq : (decide (-9223372036854775808 ≤ a1 + b1) && decide (a2 + b2 ≤ 9223372036854775807)) = false := by
        rw [← Bool.decide_and]
        exact decide_eq_false q
      rw [hq] at h
      cases h
theorem ev_lcmp_ok (hx : p.tables.exec = Jvm.exec) (hb : c.code = cc) (hd : decode cc pc = .ok (.lcmp, 1)) : ev_Sim p l e R s m args below meth c Q nL D cl A H0 ex ad0 tyOf pc (ev_lcmp (pc + 1)) := by
  intro st pc' st' h g
  obtain ⟨stk, r⟩ := st
  match stk, h with
  | .inr (.inl b) :: .inr (.inl a) :: stk, h =>
    simp only [ev_lcmp] at h
    have key : ∃ z : Int, pc' = pc + 1 ∧ st' = (ev_int z :: stk, r) ∧ ∀ x y : Int64, a.1 ≤ x.toInt → x.toInt ≤ a.2 → b.1 ≤ y.toInt → y.toInt ≤ b.2 → (lg_cmp x y).toInt = z := by
      split at h
      · next q =>
        cases h
        refine ⟨-1, rfl, rfl, fun x y h1 h2 h3 h4 => ?_⟩
        have h5 : x < y := Int64.lt_iff_toInt_lt.mpr (ev_lt_t q h2 h3)
        have h6 : ¬ y < x := fun z => by have := Int64.lt_iff_toInt_lt.mp z; have := Int64.lt_iff_toInt_lt.mp h5; omega
        have h7 : ¬ x = y := fun z => by rw [z] at h5; exact absurd h5 (fun w => by have := Int64.lt_iff_toInt_lt.mp w; omega)
        simp [lg_cmp, h6, h7]
      · split at h
        · next q =>
          cases h
          refine ⟨1, rfl, rfl, fun x y h1 h2 h3 h4 => ?_⟩
          have h5 : y < x := Int64.lt_iff_toInt_lt.mpr (ev_lt_t q h4 h1)
          simp [lg_cmp, h5]
        · split at h
          · next q =>
            cases h
            refine ⟨0, rfl, rfl, fun x y h1 h2 h3 h4 => ?_⟩
            have h5 : x = y := Int64.toInt_inj.mp (ev_eq_t q h1 h2 h3 h4)
            subst h5
            have h6 : ¬ x < x := fun z => by have := Int64.lt_iff_toInt_lt.mp z; omega
            simp [lg_cmp, h6]
          · cases h
    obtain ⟨z, rfl, rfl, hz⟩ := key
    intro H locs ls lv sv ws tys hK hP hD hS hh hl hn hL hs
    obtain ⟨b1, b2⟩ := b
    obtain ⟨a1, a2⟩ := a
    obtain ⟨w, r1, rfl, ⟨y, rfl, hy1, hy2⟩, w2, r2, rfl, ⟨x, rfl, hx1, hx2⟩, hs⟩ := hs
    have e9 := hz x y hx1 hx2 hy1 hy2
    exact W.lcmp hx hb hd (g H locs ls lv (.int (lg_cmp x y) :: r2) ws tys hK hP hD hS hh hl hn hL ⟨_, _, rfl, ⟨_, rfl, by rw [e9]; exact Int.le_refl _, by rw [e9]; exact Int.le_refl _⟩, hs⟩)
theorem ev_iinc_ok (hx : p.tables.exec = Jvm.exec) (hb : c.code = cc) {i : Nat} {d : Int} (hd : decode cc pc = .ok (.iinc i d, 3)) (hr : (Int32.ofInt d).toInt = d) : ev_Sim p l e R s m args below meth c Q nL D cl A H0 ex ad0 tyOf pc (ev_iinc (pc + 3) i d) := by
  intro st pc' st' h g
  obtain ⟨stk, L, r⟩ := st
  simp only [ev_iinc, ev_lg_eq, ev_fI_eq, ev_ls_eq] at h
  split at h
  · next lo hi hv =>
    by_cases q : lo = hi
    · rw [decide_eq_true q] at h
      cases hf : ev_free L i with
      | false => rw [hf] at h; cases h
      | true =>
        rw [hf] at h
        have hlt : i < L.length := (List.getElem?_eq_some_iff.mp hv).1
        simp only [Bool.and_self, cond_true, if_pos hlt] at h
        cases h
        intro H locs ls lv sv ws tys hK hP hD hS hh hl hn hL hs
        obtain ⟨w, hw, x, rfl, h1, h2⟩ := hL i _ hv
        obtain ⟨k, hk⟩ := List.getElem?_of_mem hw
        have e9 : (x + Int32.ofInt d).toInt = ev_wr32 (lo + d) := by
          rw [Int32.toInt_add, hr, show x.toInt = lo by omega]
          rfl
        refine lv_iinc hx hb hd hl hk rfl (by rw [← hn]; exact hlt) rfl (fun ls' hl' => ?_)
        exact g H locs ls' _ sv ws tys hK hP hD hS hh hl' (by rw [List.length_set]; exact hn) (ev_lR_set hL hf ⟨_, rfl, by rw [e9]; exact Int.le_refl _, by rw [e9]; exact Int.le_refl _⟩) hs
    · rw [decide_eq_false q] at h
      cases h
  · cases h
end EvB
end
section
/-! CELLS: fields, new objects, arrays of ints, longs and references. -/
theorem ev_vR_mono {ad ad' : List Nat} {ex : Nat → Value} (hm : ∀ k a : Nat, ad[k]? = some a → ad'[k]? = some a) {v : ev_V} {w : Value} (h : ev_vR ad ex v w) : ev_vR ad' ex v w := by
  match v, h with
  | .inl (lo, hi), h => exact h
  | .inr (.inl (lo, hi)), h => exact h
  | .inr (.inr none), h => exact h
  | .inr (.inr (some (.inl k))), ⟨a, h1, h2⟩ => exact ⟨a, hm k a h1, h2⟩
  | .inr (.inr (some (.inr j))), h => exact h
theorem ev_lR_mono {ad ad' : List Nat} {ex : Nat → Value} (hm : ∀ k a : Nat, ad[k]? = some a → ad'[k]? = some a) {L : List (Option ev_V)} {lv : List (Nat × Value)} (h : ev_lR ad ex L lv) : ev_lR ad' ex L lv := by
  intro i v hi
  obtain ⟨w, h1, h2⟩ := h i v hi
  exact ⟨w, h1, ev_vR_mono hm h2⟩
theorem ev_kR_mono {ad ad' : List Nat} {ex : Nat → Value} (hm : ∀ k a : Nat, ad[k]? = some a → ad'[k]? = some a) : ∀ {l : List ev_V} {sv : List Value}, ev_kR ad ex l sv → ev_kR ad' ex l sv
  | [], _, h => h
  | _ :: _, _, ⟨w, r, h1, h2, h3⟩ => ⟨w, r, h1, ev_vR_mono hm h2, ev_kR_mono hm h3⟩
theorem ev_aR_mono {ad ad' : List Nat} {ex : Nat → Value} (hm : ∀ k a : Nat, ad[k]? = some a → ad'[k]? = some a) {els : List ev_V} {kd : Nat} {x : (Nat → Int32) ⊕ (Nat → Int64) ⊕ (Nat → UInt32) ⊕ (Nat → UInt64) ⊕ (Nat → Option Nat)} (h : ev_aR ad ex els kd x) : ev_aR ad' ex els kd x := by
  match kd, h with
  | 0, ⟨f, h1, h2⟩ => exact ⟨f, h1, fun j v hj => ev_vR_mono hm (h2 j v hj)⟩
  | 1, ⟨f, h1, h2⟩ => exact ⟨f, h1, fun j v hj => ev_vR_mono hm (h2 j v hj)⟩
  | 2, ⟨f, h1, h2⟩ => exact ⟨f, h1, fun j v hj => ev_vR_mono hm (h2 j v hj)⟩
theorem ev_cR_mono {tyOf : Nat → FieldType} {tys tys' : List (ClassId × FieldType)} {ad ad' : List Nat} {ex : Nat → Value} (ht : ∀ (k : Nat) (q : ClassId × FieldType), tys[k]? = some q → tys'[k]? = some q) (hm : ∀ k a : Nat, ad[k]? = some a → ad'[k]? = some a) {q : ev_C} {e : va_E} (h : ev_cR tyOf tys ad ex q e) : ev_cR tyOf tys' ad' ex q e := by
  match q, h with
  | .inl (ci, fs), ⟨vs, h1, h2, h3⟩ =>
    refine ⟨vs, h1, h2, fun k v hk => ?_⟩
    obtain ⟨w, h4, h5⟩ := h3 k v hk
    exact ⟨w, h4, ev_vR_mono hm h5⟩
  | .inr (tc, n, els), ⟨cA, x, h1, h2, h3, ⟨t0, h4⟩, h5⟩ => exact ⟨cA, x, h1, h2, h3, ⟨t0, ht _ _ h4⟩, ev_aR_mono hm h5⟩
theorem ev_fst_set {ws : va_W} {k a : Nat} {e e' : va_E} (h : ws[k]? = some (a, e)) : (ws.set k (a, e')).map Prod.fst = ws.map Prod.fst := by
  apply List.ext_getElem?
  intro i
  rw [List.getElem?_map, List.getElem?_map]
  by_cases hi : k = i
  · subst hi
    rw [List.getElem?_set_self (List.getElem?_eq_some_iff.mp h).1, h]
    rfl
  · rw [List.getElem?_set_ne hi]
theorem ev_fst_push {ws : va_W} {a : Nat} {e : va_E} : ∀ k b : Nat, (ws.map Prod.fst)[k]? = some b → ((ws ++ [(a, e)]).map Prod.fst)[k]? = some b := by
  intro k b h
  rw [List.map_append, List.getElem?_append_left (List.getElem?_eq_some_iff.mp h).1]
  exact h
theorem ev_app {α : Type} {l : List α} {x : α} : ∀ (k : Nat) (q : α), l[k]? = some q → (l ++ [x])[k]? = some q := by
  intro k q h
  rw [List.getElem?_append_left (List.getElem?_eq_some_iff.mp h).1]
  exact h
theorem ev_hR_set {ad0 : List Nat} {tyOf : Nat → FieldType} {tys : List (ClassId × FieldType)} {ex : Nat → Value} {h : ev_Hp} {ws : va_W} {k a : Nat} {e e' : va_E} {q' : ev_C} (hh : ev_hR ad0 tyOf tys ex h ws) (hw : ws[k]? = some (a, e)) (hr : ev_cR tyOf tys (ws.map Prod.fst) ex q' e') : ev_hR ad0 tyOf tys ex (h.1, ev_tS 10 h.2 k (some q')) (ws.set k (a, e')) := by
  obtain ⟨h1, h2, h0, h3⟩ := hh
  have hlt : k < ws.length := (List.getElem?_eq_some_iff.mp hw).1
  have hk : k < 1024 := by omega
  refine ⟨by rw [List.length_set]; exact h1, h2, by rw [ev_fst_set hw]; exact h0, fun j hj q hq => ?_⟩
  rw [ev_fst_set hw]
  dsimp only at hq
  rw [ev_tg_S] at hq
  by_cases hjk : j = k
  · subst hjk
    rw [if_pos rfl] at hq
    cases hq
    exact ⟨a, e', List.getElem?_set_self hlt, hr⟩
  · have hne : ¬ j % 2 ^ 10 = k % 2 ^ 10 := by
      rw [show (2 : Nat) ^ 10 = 1024 from rfl, Nat.mod_eq_of_lt hj, Nat.mod_eq_of_lt hk]
      exact hjk
    rw [if_neg hne] at hq
    obtain ⟨b, e2, h4, h5⟩ := h3 j hj q hq
    exact ⟨b, e2, by rw [List.getElem?_set_ne (fun z => hjk z.symm)]; exact h4, h5⟩
theorem ev_hR_push {ad0 : List Nat} {tyOf : Nat → FieldType} {tys tys' : List (ClassId × FieldType)} {ex : Nat → Value} {h : ev_Hp} {ws : va_W} {a : Nat} {e : va_E} {q' : ev_C} (hh : ev_hR ad0 tyOf tys ex h ws) (hlt : h.1 < 1024) (ht : ∀ (k : Nat) (q : ClassId × FieldType), tys[k]? = some q → tys'[k]? = some q) (hr : ev_cR tyOf tys' ((ws ++ [(a, e)]).map Prod.fst) ex q' e) : ev_hR ad0 tyOf tys' ex (h.1 + 1, ev_tS 10 h.2 h.1 (some q')) (ws ++ [(a, e)]) := by
  obtain ⟨h1, h2, h0, h3⟩ := hh
  refine ⟨by rw [List.length_append, h1]; rfl, hlt, fun i b hb => ev_fst_push i b (h0 i b hb), fun j hj q hq => ?_⟩
  dsimp only at hq
  rw [ev_tg_S] at hq
  by_cases hjk : j = h.1
  · subst hjk
    rw [if_pos rfl] at hq
    cases hq
    exact ⟨a, e, by rw [← h1, List.getElem?_append_right (Nat.le_refl _), Nat.sub_self]; rfl, hr⟩
  · have hne : ¬ j % 2 ^ 10 = h.1 % 2 ^ 10 := by
      rw [show (2 : Nat) ^ 10 = 1024 from rfl, Nat.mod_eq_of_lt hj, Nat.mod_eq_of_lt hlt]
      exact hjk
    rw [if_neg hne] at hq
    obtain ⟨b, e2, h4, h5⟩ := h3 j hj q hq
    exact ⟨b, e2, ev_app _ _ h4, ev_cR_mono ht ev_fst_push h5⟩
/-- a place of the world -/
theorem ev_place {ws : va_W} {k : Nat} {ex : Nat → Value} {w : Value} (h : ev_vR (ws.map Prod.fst) ex (.inr (.inr (some (.inl k)))) w) : ∃ a e, ws[k]? = some (a, e) ∧ w = .ref a := by
  obtain ⟨a, h1, h2⟩ := h
  rw [List.getElem?_map] at h1
  cases hk : ws[k]? with
  | none => rw [hk] at h1; cases h1
  | some q =>
    rw [hk] at h1
    obtain ⟨b, e⟩ := q
    cases h1
    exact ⟨b, e, rfl, h2⟩
/-- what a known cell at a place is -/
theorem ev_cell {ad0 : List Nat} {tyOf : Nat → FieldType} {tys : List (ClassId × FieldType)} {ex : Nat → Value} {h : ev_Hp} {ws : va_W} {k a : Nat} {e : va_E} {q : ev_C} (hh : ev_hR ad0 tyOf tys ex h ws) (hw : ws[k]? = some (a, e)) (hq : ev_tg 10 h.2 k = some q) : ev_cR tyOf tys (ws.map Prod.fst) ex q e := by
  obtain ⟨h1, h2, h0, h3⟩ := hh
  have hlt : k < ws.length := (List.getElem?_eq_some_iff.mp hw).1
  obtain ⟨b, e2, h4, h5⟩ := h3 k (by omega) q hq
  rw [hw] at h4
  cases h4
  exact h5
def ev_get (n ci j : Nat) : ev_I := fun st => match st with
  | (.inr (.inr (some (.inl k))) :: stk, L, h, r) => match ev_tg 10 h.2 k with
    | some (.inl (ci', fs)) => match ev_lg fs j with
      | some v => cond (Nat.beq ci' ci) (some (n, (v :: stk, L, h, r))) none
      | none => none
    | _ => none
  | _ => none
/-- which values a field takes: 0 an int, 1 a boolean, 4 a long, 5 a reference -/
def ev_fit (tk : Nat) (v : ev_V) : Bool := match tk, v with
  | 0, .inl _ => true
  | 1, .inl (lo, hi) => decide (0 ≤ lo) && decide (hi ≤ 1)
  | 4, .inr (.inl _) => true
  | 5, .inr (.inr _) => true
  | _, _ => false
def ev_tk (ty : FieldType) : Nat := match ty with
  | .int => 0
  | .boolean => 1
  | .long => 4
  | .object _ => 5
  | .array _ => 5
  | _ => 9
theorem ev_fit_ok {ad : List Nat} {ex : Nat → Value} {ty : FieldType} {v : ev_V} {w : Value} (hf : ev_fit (ev_tk ty) v = true) (h : ev_vR ad ex v w) : narrow ty w = w ∧ fits ty w = true := by
  match ty, v, hf, h with
  | .int, .inl (lo, hi), _, ⟨x, h, _⟩ => rw [h]; exact ⟨rfl, rfl⟩
  | .boolean, .inl (lo, hi), hf, ⟨x, h, h1, h2⟩ =>
    have hf2 : (decide (0 ≤ lo) && decide (hi ≤ 1)) = true := hf
    rw [Bool.and_eq_true, decide_eq_true_eq, decide_eq_true_eq] at hf2
    have h3 : x = 0 ∨ x = 1 := by
      by_cases q : x.toInt = 0
      · exact Or.inl (Int32.toInt_inj.mp q)
      · exact Or.inr (Int32.toInt_inj.mp (show x.toInt = 1 by omega))
    rw [h]
    rcases h3 with rfl | rfl
    · exact ⟨by decide, by decide⟩
    · exact ⟨by decide, by decide⟩
  | .long, .inr (.inl (lo, hi)), _, ⟨x, h, _⟩ => rw [h]; exact ⟨rfl, rfl⟩
  | .object C, .inr (.inr u), _, h =>
    rcases ev_rf h with ⟨rfl, -⟩ | ⟨a, rfl, -⟩
    · exact ⟨rfl, rfl⟩
    · exact ⟨rfl, rfl⟩
  | .array t, .inr (.inr u), _, h =>
    rcases ev_rf h with ⟨rfl, -⟩ | ⟨a, rfl, -⟩
    · exact ⟨rfl, rfl⟩
    · exact ⟨rfl, rfl⟩
def ev_put (n ci j tk : Nat) : ev_I := fun st => match st with
  | (v :: .inr (.inr (some (.inl k))) :: stk, L, h, r) => match ev_tg 10 h.2 k with
    | some (.inl (ci', fs)) => cond (Nat.beq ci' ci && ev_fit tk v) (ev_ls fs j v (fun fs' => ev_ts 10 h.2 k (some (.inl (ci', fs'))) (fun t' => some (n, (stk, L, (h.1, t'), r)))) none) none
    | _ => none
  | _ => none
/-- a new object, its fields as fs has them; no more than cm cells of sm slots in this frame -/
def ev_new (n ci N cm sm : Nat) (fs : List ev_V) : ev_I := fun st => match st with
  | (stk, L, (sz, t), (c1, n1)) => cond (Nat.blt sz 1024 && (Nat.ble (c1 + 1) cm && Nat.ble (n1 + N) sm)) (ev_ts 10 t sz (some (.inl (ci, fs))) (fun t' => ev_fN (sz + 1) (fun sz' => ev_fN (c1 + 1) (fun c' => ev_fN (n1 + N) (fun n' => some (n, (ev_ref sz :: stk, L, (sz', t'), (c', n')))))))) none
theorem ev_get_i {st st' : ev_S} {n ci j pc' : Nat} (h : ev_get n ci j st = some (pc', st')) : ∃ k stk fs v, st.1 = .inr (.inr (some (.inl k))) :: stk ∧ ev_tg 10 st.2.2.1.2 k = some (.inl (ci, fs)) ∧ fs[j]? = some v ∧ pc' = n ∧ st' = (v :: stk, st.2) := by
  obtain ⟨stk, L, hp, r⟩ := st
  match stk, h with
  | .inr (.inr (some (.inl k))) :: stk, h =>
    simp only [ev_get, ev_lg_eq] at h
    split at h
    · next ci' fs hq =>
      split at h
      · next v hv =>
        obtain ⟨hc, h2⟩ := ev_bt1 h
        have e1 : ci' = ci := Nat.eq_of_beq_eq_true hc
        subst e1
        cases h2
        exact ⟨k, stk, fs, v, rfl, hq, hv, rfl, rfl⟩
      · cases h
    · cases h
theorem ev_put_i {st st' : ev_S} {n ci j tk pc' : Nat} (h : ev_put n ci j tk st = some (pc', st')) : ∃ v k stk fs, st.1 = v :: .inr (.inr (some (.inl k))) :: stk ∧ ev_tg 10 st.2.2.1.2 k = some (.inl (ci, fs)) ∧ ev_fit tk v = true ∧ j < fs.length ∧ pc' = n ∧ st' = (stk, st.2.1, (st.2.2.1.1, ev_tS 10 st.2.2.1.2 k (some (.inl (ci, fs.set j v)))), st.2.2.2) := by
  obtain ⟨stk, L, hp, r⟩ := st
  match stk, h with
  | v :: .inr (.inr (some (.inl k))) :: stk, h =>
    simp only [ev_put] at h
    split at h
    · next ci' fs hq =>
      cases hc : Nat.beq ci' ci with
      | false => rw [hc] at h; cases h
      | true =>
        have e1 : ci' = ci := Nat.eq_of_beq_eq_true hc
        subst e1
        cases hf : ev_fit tk v with
        | false => rw [hc, hf] at h; cases h
        | true =>
          rw [hc, hf] at h
          simp only [Bool.and_self, cond_true, ev_ls_eq, ev_ts_eq] at h
          by_cases hj : j < fs.length
          · rw [if_pos hj] at h
            cases h
            exact ⟨v, k, stk, fs, rfl, hq, hf, hj, rfl, rfl⟩
          · rw [if_neg hj] at h
            cases h
    · cases h
theorem ev_new_i {st st' : ev_S} {n ci N cm sm pc' : Nat} {fs : List ev_V} (h : ev_new n ci N cm sm fs st = some (pc', st')) : st.2.2.1.1 < 1024 ∧ st.2.2.2.1 + 1 ≤ cm ∧ st.2.2.2.2 + N ≤ sm ∧ pc' = n ∧ st' = (ev_ref st.2.2.1.1 :: st.1, st.2.1, (st.2.2.1.1 + 1, ev_tS 10 st.2.2.1.2 st.2.2.1.1 (some (.inl (ci, fs)))), (st.2.2.2.1 + 1, st.2.2.2.2 + N)) := by
  obtain ⟨stk, L, ⟨sz, t⟩, c1, n1⟩ := st
  simp only [ev_new, ev_ts_eq, ev_fN_eq] at h
  cases h1 : Nat.blt sz 1024 with
  | false => rw [h1] at h; cases h
  | true =>
    cases h2 : Nat.ble (c1 + 1) cm with
    | false => rw [h1, h2] at h; cases h
    | true =>
      cases h3 : Nat.ble (n1 + N) sm with
      | false => rw [h1, h2, h3] at h; cases h
      | true =>
        rw [h1, h2, h3] at h
        cases h
        exact ⟨Nat.le_of_ble_eq_true h1, Nat.le_of_ble_eq_true h2, Nat.le_of_ble_eq_true h3, rfl, rfl⟩
section EvC
variable {p : Program} {l : Launch} {e : Env} {R : Room} {s : State} {m : MethodId} {args : Array Value} {below : List Frame} {meth : Method} {c : Code} {Q : State → Prop} {nL : Nat} {D : va_G} {cl : List vw_C} {A : Nat → Prop} {H0 : Heap} {ex : Nat → Value} {ad0 : List Nat} {tyOf : Nat → FieldType}
variable {cc : ByteArray} {pc : Nat}
theorem ev_get_ok (hx : p.tables.exec = Jvm.exec) (hb : c.code = cc) {own ref C : String} {T : u_T} {N ci index j : Nat} {Ts : List Cond} (hts : ∀ w ∈ Ts, w.before args s = true) (hin : ∀ w ∈ u_ws C T N, w ∈ Ts) (ho : s.vm.findClass own = some m.cls) (hc : cl[ci]? = some (C, T, N)) (hj : j < N) (hlink : (Cond.fieldLink own index ref (T j).2.1 (T j).2.2.1).before args s = true) (hsame : ∀ x, s.fieldFound? (T j).1 (T j).2.1 (T j).2.2.1 = some x → s.fieldFound? ref (T j).2.1 (T j).2.2.1 = some x) (hd : decode cc pc = .ok (.getfield index, 3)) : ev_Sim p l e R s m args below meth c Q nL D cl A H0 ex ad0 tyOf pc (ev_get (pc + 3) ci j) := by
  intro st pc' st' h g
  obtain ⟨k, stk, fs, v, e1, hq, hv, rfl, rfl⟩ := ev_get_i h
  intro H locs ls lv sv ws tys hK hP hD hS hh hl hn hL hs
  rw [e1] at hs
  obtain ⟨w, r, rfl, hw, hr⟩ := hs
  obtain ⟨a, e2, hwk, rfl⟩ := ev_place hw
  obtain ⟨vs, rfl, hlen, hf⟩ := ev_cell hh hwk hq
  obtain ⟨u, hu, hur⟩ := hf j v hv
  exact va_get hx hb hts hin ho hK hP k hwk hc j hj hlink hsame hu hd (g H locs ls lv (u :: r) ws tys hK hP hD hS hh hl hn hL ⟨_, _, rfl, hur, hr⟩)
theorem ev_getN_ok (hx : p.tables.exec = Jvm.exec) (hb : c.code = cc) {own ref C host : String} {T : u_T} {N ci index j : Nat} {Ts : List Cond} (hts : ∀ w ∈ Ts, w.before args s = true) (hin : ∀ w ∈ u_ws C T N, w ∈ Ts) (ho : s.vm.findClass own = some m.cls) (hc : cl[ci]? = some (C, T, N)) (hj : j < N) (hlink : (Cond.fieldLinkNest own index ref (T j).2.1 (T j).2.2.1 host).before args s = true) (hsame : ∀ x, s.fieldFound? (T j).1 (T j).2.1 (T j).2.2.1 = some x → s.fieldFound? ref (T j).2.1 (T j).2.2.1 = some x) (hd : decode cc pc = .ok (.getfield index, 3)) : ev_Sim p l e R s m args below meth c Q nL D cl A H0 ex ad0 tyOf pc (ev_get (pc + 3) ci j) := by
  intro st pc' st' h g
  obtain ⟨k, stk, fs, v, e1, hq, hv, rfl, rfl⟩ := ev_get_i h
  intro H locs ls lv sv ws tys hK hP hD hS hh hl hn hL hs
  rw [e1] at hs
  obtain ⟨w, r, rfl, hw, hr⟩ := hs
  obtain ⟨a, e2, hwk, rfl⟩ := ev_place hw
  obtain ⟨vs, rfl, hlen, hf⟩ := ev_cell hh hwk hq
  obtain ⟨u, hu, hur⟩ := hf j v hv
  exact va_getN hx hb hts hin ho hK hP k hwk hc j hj hlink hsame hu hd (g H locs ls lv (u :: r) ws tys hK hP hD hS hh hl hn hL ⟨_, _, rfl, hur, hr⟩)
/-- the world behind a field's new value -/
theorem ev_put_h {tys : List (ClassId × FieldType)} {h : ev_Hp} {ws : va_W} {k a ci j : Nat} {fs : List ev_V} {vs : List Value} {v : ev_V} {w : Value} (hh : ev_hR ad0 tyOf tys ex h ws) (hwk : ws[k]? = some (a, .inr (ci, vs))) (hlen : vs.length = fs.length) (hf : ∀ (k : Nat) (v : ev_V), fs[k]? = some v → ∃ w, vs[k]? = some w ∧ ev_vR (ws.map Prod.fst) ex v w) (hj : j < fs.length) (hv : ev_vR (ws.map Prod.fst) ex v w) : ev_hR ad0 tyOf tys ex (h.1, ev_tS 10 h.2 k (some (.inl (ci, fs.set j v)))) (ws.set k (a, .inr (ci, vs.set j w))) := by
  refine ev_hR_set hh hwk ⟨vs.set j w, rfl, by rw [List.length_set, List.length_set]; exact hlen, fun i u hi => ?_⟩
  by_cases hij : j = i
  · subst hij
    rw [List.getElem?_set_self hj] at hi
    cases hi
    exact ⟨w, List.getElem?_set_self (by rw [hlen]; exact hj), hv⟩
  · rw [List.getElem?_set_ne hij] at hi
    obtain ⟨x, h1, h2⟩ := hf i u hi
    exact ⟨x, by rw [List.getElem?_set_ne hij]; exact h1, h2⟩
theorem ev_put_ok (hx : p.tables.exec = Jvm.exec) (hb : c.code = cc) {own ref C : String} {T : u_T} {N ci index j tk : Nat} {Ts : List Cond} (hts : ∀ w ∈ Ts, w.before args s = true) (hin : ∀ w ∈ u_ws C T N, w ∈ Ts) (ty0 : Nat → FieldType) (hty : ∀ k, k < N → parseFieldDescriptor (T k).2.2.1 = some (ty0 k)) (hnm : ∀ a, a < N → ∀ b, b < N → a ≠ b → (T a).2.1 ≠ (T b).2.1) (ho : s.vm.findClass own = some m.cls) (hc : cl[ci]? = some (C, T, N)) (hj : j < N) (hlink : (Cond.fieldLink own index ref (T j).2.1 (T j).2.2.1).before args s = true) (hsame : ∀ x, s.fieldFound? (T j).1 (T j).2.1 (T j).2.2.1 = some x → s.fieldFound? ref (T j).2.1 (T j).2.2.1 = some x) (hfin : (T j).2.2.2 = false) (htk : ev_tk (ty0 j) = tk) (hd : decode cc pc = .ok (.putfield index, 3)) : ev_Sim p l e R s m args below meth c Q nL D cl A H0 ex ad0 tyOf pc (ev_put (pc + 3) ci j tk) := by
  intro st pc' st' h g
  obtain ⟨v, k, stk, fs, e1, hq, hfit, hjl, rfl, rfl⟩ := ev_put_i h
  intro H locs ls lv sv ws tys hK hP hD hS hh hl hn hL hs
  rw [e1] at hs
  obtain ⟨w, r, rfl, hw, w2, r2, rfl, hw2, hr⟩ := hs
  obtain ⟨a, e2, hwk, rfl⟩ := ev_place hw2
  obtain ⟨vs, rfl, hlen, hf⟩ := ev_cell hh hwk hq
  subst htk
  obtain ⟨f1, f2⟩ := ev_fit_ok hfit hw
  refine va_put hx hb hts hin ty0 hty hnm ho hK hP hD hS k hwk hc j hj hlink hsame hfin (hty j hj) f1 f2 (by rw [hlen]; exact hjl) hd (fun H1 locs1 hP1 hD1 hS1 => ?_)
  have ea := ev_fst_set (e' := .inr (ci, vs.set j w)) hwk
  exact g H1 locs1 ls lv r2 _ tys hK hP1 hD1 hS1 (ev_put_h hh hwk hlen hf hjl hw) hl hn (by rw [ea]; exact hL) (by rw [ea]; exact hr)
theorem ev_putN_ok (hx : p.tables.exec = Jvm.exec) (hb : c.code = cc) {own ref C host : String} {T : u_T} {N ci index j tk : Nat} {Ts : List Cond} (hts : ∀ w ∈ Ts, w.before args s = true) (hin : ∀ w ∈ u_ws C T N, w ∈ Ts) (ty0 : Nat → FieldType) (hty : ∀ k, k < N → parseFieldDescriptor (T k).2.2.1 = some (ty0 k)) (hnm : ∀ a, a < N → ∀ b, b < N → a ≠ b → (T a).2.1 ≠ (T b).2.1) (ho : s.vm.findClass own = some m.cls) (hc : cl[ci]? = some (C, T, N)) (hj : j < N) (hlink : (Cond.fieldLinkNest own index ref (T j).2.1 (T j).2.2.1 host).before args s = true) (hsame : ∀ x, s.fieldFound? (T j).1 (T j).2.1 (T j).2.2.1 = some x → s.fieldFound? ref (T j).2.1 (T j).2.2.1 = some x) (hfin : (T j).2.2.2 = false) (htk : ev_tk (ty0 j) = tk) (hd : decode cc pc = .ok (.putfield index, 3)) : ev_Sim p l e R s m args below meth c Q nL D cl A H0 ex ad0 tyOf pc (ev_put (pc + 3) ci j tk) := by
  intro st pc' st' h g
  obtain ⟨v, k, stk, fs, e1, hq, hfit, hjl, rfl, rfl⟩ := ev_put_i h
  intro H locs ls lv sv ws tys hK hP hD hS hh hl hn hL hs
  rw [e1] at hs
  obtain ⟨w, r, rfl, hw, w2, r2, rfl, hw2, hr⟩ := hs
  obtain ⟨a, e2, hwk, rfl⟩ := ev_place hw2
  obtain ⟨vs, rfl, hlen, hf⟩ := ev_cell hh hwk hq
  subst htk
  obtain ⟨f1, f2⟩ := ev_fit_ok hfit hw
  refine va_putN hx hb hts hin ty0 hty hnm ho hK hP hD hS k hwk hc j hj hlink hsame hfin (hty j hj) f1 f2 (by rw [hlen]; exact hjl) hd (fun H1 locs1 hP1 hD1 hS1 => ?_)
  have ea := ev_fst_set (e' := .inr (ci, vs.set j w)) hwk
  exact g H1 locs1 ls lv r2 _ tys hK hP1 hD1 hS1 (ev_put_h hh hwk hlen hf hjl hw) hl hn (by rw [ea]; exact hL) (by rw [ea]; exact hr)
theorem ev_putF_ok (hx : p.tables.exec = Jvm.exec) (hb : c.code = cc) {own ref C : String} {T : u_T} {N ci index j tk : Nat} {Ts : List Cond} (hts : ∀ w ∈ Ts, w.before args s = true) (hin : ∀ w ∈ u_ws C T N, w ∈ Ts) (ty0 : Nat → FieldType) (hty : ∀ k, k < N → parseFieldDescriptor (T k).2.2.1 = some (ty0 k)) (hnm : ∀ a, a < N → ∀ b, b < N → a ≠ b → (T a).2.1 ≠ (T b).2.1) (ho : s.vm.findClass own = some m.cls) (hc : cl[ci]? = some (C, T, N)) (hj : j < N) (hlink : (Cond.fieldLink own index ref (T j).2.1 (T j).2.2.1).before args s = true) (hsame : ∀ x, s.fieldFound? (T j).1 (T j).2.1 (T j).2.2.1 = some x → s.fieldFound? ref (T j).2.1 (T j).2.2.1 = some x) (hfin : (T j).2.2.2 = true) (hini : meth.name = "<init>") (hdecl : (T j).1 = own) (htk : ev_tk (ty0 j) = tk) (hd : decode cc pc = .ok (.putfield index, 3)) : ev_Sim p l e R s m args below meth c Q nL D cl A H0 ex ad0 tyOf pc (ev_put (pc + 3) ci j tk) := by
  intro st pc' st' h g
  obtain ⟨v, k, stk, fs, e1, hq, hfit, hjl, rfl, rfl⟩ := ev_put_i h
  intro H locs ls lv sv ws tys hK hP hD hS hh hl hn hL hs
  rw [e1] at hs
  obtain ⟨w, r, rfl, hw, w2, r2, rfl, hw2, hr⟩ := hs
  obtain ⟨a, e2, hwk, rfl⟩ := ev_place hw2
  obtain ⟨vs, rfl, hlen, hf⟩ := ev_cell hh hwk hq
  subst htk
  obtain ⟨f1, f2⟩ := ev_fit_ok hfit hw
  refine va_putF hx hb hts hin ty0 hty hnm ho hK hP hD hS k hwk hc j hj hlink hsame hfin hini hdecl (hty j hj) f1 f2 (by rw [hlen]; exact hjl) hd (fun H1 locs1 hP1 hD1 hS1 => ?_)
  have ea := ev_fst_set (e' := .inr (ci, vs.set j w)) hwk
  exact g H1 locs1 ls lv r2 _ tys hK hP1 hD1 hS1 (ev_put_h hh hwk hlen hf hjl hw) hl hn (by rw [ea]; exact hL) (by rw [ea]; exact hr)
/-- a new object's fields, as values -/
def ev_dv (ty : FieldType) : ev_V := match ev_tk ty with
  | 4 => .inr (.inl (0, 0))
  | 5 => ev_null
  | _ => ev_int 0
theorem ev_dv_ok {ad : List Nat} {ex : Nat → Value} {ty : FieldType} (h : ev_tk ty < 9) : ev_vR ad ex (ev_dv ty) (defaultValue ty) := by
  match ty, h with
  | .int, _ => exact ⟨0, rfl, Int.le_refl _, Int.le_refl _⟩
  | .boolean, _ => exact ⟨0, rfl, Int.le_refl _, Int.le_refl _⟩
  | .long, _ => exact ⟨0, rfl, Int.le_refl _, Int.le_refl _⟩
  | .object C, _ => exact rfl
  | .array t, _ => exact rfl
theorem ev_new_ok (hx : p.tables.exec = Jvm.exec) (hb : c.code = cc) {own C : String} {T : u_T} {N ci index cm sm : Nat} {Ts : List Cond} (hts : ∀ w ∈ Ts, w.before args s = true) (hin : ∀ w ∈ u_ws C T N, w ∈ Ts) (ty0 : Nat → FieldType) (hty : ∀ k, k < N → parseFieldDescriptor (T k).2.2.1 = some (ty0 k)) (ho : s.vm.findClass own = some m.cls) (hcl : (Cond.classLink own index C).before args s = true) (hinst : (Cond.instantiable C N).before args s = true) (hini : (Cond.initialized C).before args s = true) (hA : ∀ q, H0.size ≤ q → A q) (hc : cl[ci]? = some (C, T, N)) (h9 : ∀ k, k < N → ev_tk (ty0 k) < 9) (hcm : cm ≤ R.cells) (hsm : sm ≤ R.slots) (hd : decode cc pc = .ok (.new index, 3)) : ev_Sim p l e R s m args below meth c Q nL D cl A H0 ex ad0 tyOf pc (ev_new (pc + 3) ci N cm sm ((List.range N).map (fun k => ev_dv (ty0 k)))) := by
  intro st pc' st' h g
  obtain ⟨h1, h2, h3, rfl, rfl⟩ := ev_new_i h
  intro H locs ls lv sv ws tys hK hP hD hS hh hl hn hL hs
  have hfs : ∀ j, j < N → defaultValue (ty0 j) = vp_V ((List.range N).map (fun k => defaultValue (ty0 k))) j := by
    intro j hj
    simp [vp_V, List.getD_eq_getElem?_getD, hj]
  refine va_new hx hb hts hin ty0 hty ho hcl hinst hini hK hP hD hS hA hc hfs (Nat.le_trans h2 hcm) (Nat.le_trans h3 hsm) hd (fun q H1 hP1 hD1 hS1 => ?_)
  refine g H1 locs ls lv (.ref q :: sv) _ tys hK hP1 hD1 hS1 (ev_hR_push hh h1 (fun _ _ z => z) ⟨_, rfl, by simp, fun k v hk => ?_⟩) hl hn (ev_lR_mono ev_fst_push hL) ⟨_, _, rfl, ⟨q, ?_, rfl⟩, ev_kR_mono ev_fst_push hs⟩
  · rw [List.getElem?_map] at hk ⊢
    cases hkr : (List.range N)[k]? with
    | none => rw [hkr] at hk; cases hk
    | some i =>
      rw [hkr] at hk
      cases hk
      have hi : i < N := List.mem_range.mp (List.mem_of_getElem? hkr)
      exact ⟨_, rfl, ev_dv_ok (h9 i hi)⟩
  · rw [List.map_append, ← hh.1, List.getElem?_append_right (by rw [List.length_map]; exact Nat.le_refl _), List.length_map, Nat.sub_self]
    rfl
end EvC
end
section
/-! ARRAYS. -/
/-- what a new array holds: by ev_kd of its elements' type -/
def ev_ad (kd : Nat) : ev_V := match kd with
  | 0 => ev_int 0
  | 1 => .inr (.inl (0, 0))
  | _ => ev_null
def ev_newa (n tc kd cm sm : Nat) : ev_I := fun st => match st with
  | (.inl (.ofNat k1, k2) :: stk, L, (sz, t), (c1, n1)) => cond (decide (Int.ofNat k1 = k2) && (Nat.blt k1 65536 && (Nat.blt sz 1024 && (Nat.ble (c1 + 1) cm && Nat.ble (n1 + k1) sm)))) (ev_fN k1 (fun N => ev_ts 10 t sz (some (.inr (tc, N, List.replicate N (ev_ad kd)))) (fun t' => ev_fN (sz + 1) (fun sz' => ev_fN (c1 + 1) (fun c' => ev_fN (n1 + k1) (fun n' => some (n, (ev_ref sz :: stk, L, (sz', t'), (c', n')))))))) ) none
  | _ => none
def ev_alen (n : Nat) : ev_I := fun st => match st with
  | (.inr (.inr (some (.inl k))) :: stk, L, h, r) => match ev_tg 10 h.2 k with
    | some (.inr (_, len, _)) => some (n, (.inl (.ofNat len, .ofNat len) :: stk, L, h, r))
    | _ => none
  | _ => none
def ev_ald (n tc : Nat) : ev_I := fun st => match st with
  | (.inl (.ofNat i1, i2) :: .inr (.inr (some (.inl k))) :: stk, L, h, r) => match ev_tg 10 h.2 k with
    | some (.inr (tc', _, els)) => match ev_lg els i1 with
      | some v => cond (decide (Int.ofNat i1 = i2) && Nat.beq tc' tc) (some (n, (v :: stk, L, h, r))) none
      | none => none
    | _ => none
  | _ => none
/-- how a value lies in an array: 0 int, 2 byte, 3 char, 4 long -/
def ev_nar {β : Type} (tk : Nat) (v : ev_V) (κ : ev_V → Option β) : Option β := match tk, v with
  | 0, .inl x => κ (.inl x)
  | 2, .inl (a1, a2) => cond (decide (a1 = a2)) (ev_fI (ev_b8 a1) (fun z => κ (.inl (z, z)))) (κ (.inl (-128, 127)))
  | 3, .inl (a1, a2) => cond (decide (a1 = a2)) (ev_fI (ev_c16 a1) (fun z => κ (.inl (z, z)))) (κ (.inl (0, 65535)))
  | 4, .inr (.inl x) => κ (.inr (.inl x))
  | _, _ => none
def ev_ast (n tc tk : Nat) : ev_I := fun st => match st with
  | (v :: .inl (.ofNat i1, i2) :: .inr (.inr (some (.inl k))) :: stk, L, h, r) => match ev_tg 10 h.2 k with
    | some (.inr (tc', len, els)) => cond (decide (Int.ofNat i1 = i2) && Nat.beq tc' tc) (ev_nar tk v (fun v' => ev_ls els i1 v' (fun els' => ev_ts 10 h.2 k (some (.inr (tc', len, els'))) (fun t' => some (n, (stk, L, (h.1, t'), r)))) none)) none
    | _ => none
  | _ => none
/-- a reference of the class ci, or null, to an array of such -/
def ev_astq (n tc ci : Nat) : ev_I := fun st => match st with
  | (.inr (.inr v) :: .inl (.ofNat i1, i2) :: .inr (.inr (some (.inl k))) :: stk, L, h, r) => match ev_tg 10 h.2 k with
    | some (.inr (tc', len, els)) => cond (decide (Int.ofNat i1 = i2) && (Nat.beq tc' tc && (match v with
        | none => true
        | some (.inl j) => (match ev_tg 10 h.2 j with
          | some (.inl (ci', _)) => Nat.beq ci' ci
          | _ => false)
        | _ => false))) (ev_ls els i1 (.inr (.inr v)) (fun els' => ev_ts 10 h.2 k (some (.inr (tc', len, els'))) (fun t' => some (n, (stk, L, (h.1, t'), r)))) none) none
    | _ => none
  | _ => none
theorem ev_newa_i {st st' : ev_S} {n tc kd cm sm pc' : Nat} (h : ev_newa n tc kd cm sm st = some (pc', st')) : ∃ N stk, st.1 = .inl (.ofNat N, .ofNat N) :: stk ∧ N < 65536 ∧ st.2.2.1.1 < 1024 ∧ st.2.2.2.1 + 1 ≤ cm ∧ st.2.2.2.2 + N ≤ sm ∧ pc' = n ∧ st' = (ev_ref st.2.2.1.1 :: stk, st.2.1, (st.2.2.1.1 + 1, ev_tS 10 st.2.2.1.2 st.2.2.1.1 (some (.inr (tc, N, List.replicate N (ev_ad kd))))), (st.2.2.2.1 + 1, st.2.2.2.2 + N)) := by
  obtain ⟨stk, L, ⟨sz, t⟩, c1, n1⟩ := st
  match stk, h with
  | .inl (.ofNat k1, k2) :: stk, h =>
    simp only [ev_newa, ev_ts_eq, ev_fN_eq] at h
    obtain ⟨a1, h9⟩ := ev_bt1 h
    clear h
    rw [Bool.and_eq_true, Bool.and_eq_true, Bool.and_eq_true, Bool.and_eq_true, decide_eq_true_eq] at a1
    obtain ⟨rfl, a2, a3, a4, a5⟩ := a1
    cases h9
    exact ⟨k1, stk, rfl, Nat.le_of_ble_eq_true a2, Nat.le_of_ble_eq_true a3, Nat.le_of_ble_eq_true a4, Nat.le_of_ble_eq_true a5, rfl, rfl⟩
theorem ev_alen_i {st st' : ev_S} {n pc' : Nat} (h : ev_alen n st = some (pc', st')) : ∃ k stk tc len els, st.1 = .inr (.inr (some (.inl k))) :: stk ∧ ev_tg 10 st.2.2.1.2 k = some (.inr (tc, len, els)) ∧ pc' = n ∧ st' = (.inl (.ofNat len, .ofNat len) :: stk, st.2) := by
  obtain ⟨stk, L, hp, r⟩ := st
  match stk, h with
  | .inr (.inr (some (.inl k))) :: stk, h =>
    simp only [ev_alen] at h
    split at h
    · next tc len els hq => cases h; exact ⟨k, stk, tc, len, els, rfl, hq, rfl, rfl⟩
    · cases h
theorem ev_ald_i {st st' : ev_S} {n tc pc' : Nat} (h : ev_ald n tc st = some (pc', st')) : ∃ i k stk len els v, st.1 = .inl (.ofNat i, .ofNat i) :: .inr (.inr (some (.inl k))) :: stk ∧ ev_tg 10 st.2.2.1.2 k = some (.inr (tc, len, els)) ∧ els[i]? = some v ∧ pc' = n ∧ st' = (v :: stk, st.2) := by
  obtain ⟨stk, L, hp, r⟩ := st
  match stk, h with
  | .inl (.ofNat i1, i2) :: .inr (.inr (some (.inl k))) :: stk, h =>
    simp only [ev_ald, ev_lg_eq] at h
    split at h
    · next tc' len els hq =>
      split at h
      · next v hv =>
        obtain ⟨a1, a2, h2⟩ := ev_bt h
        rw [decide_eq_true_eq] at a1
        subst a1
        have e1 : tc' = tc := Nat.eq_of_beq_eq_true a2
        subst e1
        cases h2
        exact ⟨i1, k, stk, len, els, v, rfl, hq, hv, rfl, rfl⟩
      · cases h
    · cases h
theorem ev_c16b (x : Int32) : (x.toUInt32.toUInt16.toUInt32.toInt32).toInt = ev_c16 x.toInt := by
  have h : x.toUInt32.toUInt16.toUInt32 = x.toUInt32 % 65536 := by
    apply UInt32.toNat_inj.mp
    simp
  rw [h]
  exact ev_c16_ok x
def ev_narP (tk : Nat) (ad : List Nat) (ex : Nat → Value) (v' : ev_V) (w : Value) : Prop := match tk with
  | 0 => ∃ x : Int32, w = .int x ∧ ev_vR ad ex v' (.int x)
  | 2 => ∃ x : Int32, w = .int x ∧ ev_vR ad ex v' (.int (vp_nar .byte x))
  | 3 => ∃ x : Int32, w = .int x ∧ ev_vR ad ex v' (.int (vp_nar .char x))
  | 4 => ∃ x : Int64, w = .long x ∧ ev_vR ad ex v' (.long x)
  | _ => False
theorem ev_nar_i {β : Type} {tk : Nat} {v : ev_V} {κ : ev_V → Option β} {y : β} (h : ev_nar tk v κ = some y) : ∃ v', κ v' = some y ∧ ∀ (ad : List Nat) (ex : Nat → Value) (w : Value), ev_vR ad ex v w → ev_narP tk ad ex v' w := by
  match tk, v, h with
  | 0, .inl (lo, hi), h => exact ⟨_, h, fun ad ex w ⟨x, hw, h1⟩ => ⟨x, hw, x, rfl, h1⟩⟩
  | 4, .inr (.inl (lo, hi)), h => exact ⟨_, h, fun ad ex w ⟨x, hw, h1⟩ => ⟨x, hw, x, rfl, h1⟩⟩
  | 2, .inl (a1, a2), h =>
    simp only [ev_nar, ev_fI_eq] at h
    by_cases q : a1 = a2
    · rw [decide_eq_true q] at h
      refine ⟨_, h, fun ad ex w ⟨x, hw, h1, h2⟩ => ⟨x, hw, _, rfl, ?_⟩⟩
      rw [vp_nar_byte, ev_b8_ok, show x.toInt = a1 by omega]
      exact ⟨Int.le_refl _, Int.le_refl _⟩
    · rw [decide_eq_false q] at h
      refine ⟨_, h, fun ad ex w ⟨x, hw, h1, h2⟩ => ⟨x, hw, _, rfl, ?_⟩⟩
      rw [vp_nar_byte]
      exact ev_b8_in x
  | 3, .inl (a1, a2), h =>
    simp only [ev_nar, ev_fI_eq] at h
    by_cases q : a1 = a2
    · rw [decide_eq_true q] at h
      refine ⟨_, h, fun ad ex w ⟨x, hw, h1, h2⟩ => ⟨x, hw, _, rfl, ?_⟩⟩
      rw [vp_nar_char]
      have e8 : (x.toUInt32.toUInt16.toUInt32.toInt32).toInt = ev_c16 x.toInt := ev_c16b x
      rw [e8, show x.toInt = a1 by omega]
      exact ⟨Int.le_refl _, Int.le_refl _⟩
    · rw [decide_eq_false q] at h
      refine ⟨_, h, fun ad ex w ⟨x, hw, h1, h2⟩ => ⟨x, hw, _, rfl, ?_⟩⟩
      rw [vp_nar_char]
      have e8 : (x.toUInt32.toUInt16.toUInt32.toInt32).toInt = ev_c16 x.toInt := ev_c16b x
      rw [e8]
      unfold ev_c16
      omega
theorem ev_ast_i {st st' : ev_S} {n tc tk pc' : Nat} (h : ev_ast n tc tk st = some (pc', st')) : ∃ v v' i k stk len els, st.1 = v :: .inl (.ofNat i, .ofNat i) :: .inr (.inr (some (.inl k))) :: stk ∧ ev_tg 10 st.2.2.1.2 k = some (.inr (tc, len, els)) ∧ i < els.length ∧ pc' = n ∧ st' = (stk, st.2.1, (st.2.2.1.1, ev_tS 10 st.2.2.1.2 k (some (.inr (tc, len, els.set i v')))), st.2.2.2) ∧ ∀ (ad : List Nat) (ex : Nat → Value) (w : Value), ev_vR ad ex v w → ev_narP tk ad ex v' w := by
  obtain ⟨stk, L, hp, r⟩ := st
  match stk, h with
  | v :: .inl (.ofNat i1, i2) :: .inr (.inr (some (.inl k))) :: stk, h =>
    simp only [ev_ast] at h
    split at h
    · next tc' len els hq =>
      obtain ⟨a1, a2, h9⟩ := ev_bt h
      clear h
      rw [decide_eq_true_eq] at a1
      subst a1
      have e1 : tc' = tc := Nat.eq_of_beq_eq_true a2
      subst e1
      obtain ⟨v', h8, hv⟩ := ev_nar_i h9
      rw [ev_ls_eq, ev_ts_eq] at h8
      by_cases hi : i1 < els.length
      · rw [if_pos hi] at h8
        cases h8
        exact ⟨v, v', i1, k, stk, len, els, rfl, hq, hi, rfl, rfl, hv⟩
      · rw [if_neg hi] at h8
        cases h8
    · cases h
theorem ev_astq_i {st st' : ev_S} {n tc ci pc' : Nat} (h : ev_astq n tc ci st = some (pc', st')) : ∃ v i k stk len els, st.1 = .inr (.inr v) :: .inl (.ofNat i, .ofNat i) :: .inr (.inr (some (.inl k))) :: stk ∧ ev_tg 10 st.2.2.1.2 k = some (.inr (tc, len, els)) ∧ i < els.length ∧ pc' = n ∧ st' = (stk, st.2.1, (st.2.2.1.1, ev_tS 10 st.2.2.1.2 k (some (.inr (tc, len, els.set i (.inr (.inr v)))))), st.2.2.2) ∧ (v = none ∨ ∃ j fs, v = some (.inl j) ∧ ev_tg 10 st.2.2.1.2 j = some (.inl (ci, fs))) := by
  obtain ⟨stk, L, hp, r⟩ := st
  match stk, h with
  | .inr (.inr v) :: .inl (.ofNat i1, i2) :: .inr (.inr (some (.inl k))) :: stk, h =>
    simp only [ev_astq] at h
    split at h
    · next tc' len els hq =>
      obtain ⟨a1, a2, h9⟩ := ev_bt h
      clear h
      rw [decide_eq_true_eq] at a1
      subst a1
      rw [Bool.and_eq_true] at a2
      obtain ⟨a2, a3⟩ := a2
      have e1 : tc' = tc := Nat.eq_of_beq_eq_true a2
      subst e1
      rw [ev_ls_eq, ev_ts_eq] at h9
      by_cases hi : i1 < els.length
      · rw [if_pos hi] at h9
        cases h9
        refine ⟨v, i1, k, stk, len, els, rfl, hq, hi, rfl, rfl, ?_⟩
        match v, a3 with
        | none, _ => exact Or.inl rfl
        | some (.inl j), a3 =>
          dsimp only at a3
          split at a3
          · next ci' fs hj =>
            have e2 : ci' = ci := Nat.eq_of_beq_eq_true a3
            subst e2
            exact Or.inr ⟨j, fs, rfl, hj⟩
          · cases a3
      · rw [if_neg hi] at h9
        cases h9
    · cases h
/-- a known place of an array -/
theorem ev_ix {x : Int32} {i : Nat} (h1 : (Int.ofNat i) ≤ x.toInt) (h2 : x.toInt ≤ Int.ofNat i) : x.toNatClampNeg = i ∧ ∀ n : Nat, i < n → vp_in x n := by
  have e : x.toInt = (i : Int) := Int.le_antisymm h2 h1
  have e2 : x.toNatClampNeg = i := by
    show x.toInt.toNat = i
    rw [e]
    rfl
  exact ⟨e2, fun n hn => vp_in_iff.mpr ⟨by omega, by omega⟩⟩
theorem ev_upd {els : List ev_V} {ad : List Nat} {ex : Nat → Value} {i : Nat} {v : ev_V} {f : Nat → Value} {w : Value} (h : ∀ j v, els[j]? = some v → ev_vR ad ex v (f j)) (hi : i < els.length) (hv : ev_vR ad ex v w) : ∀ j u, (els.set i v)[j]? = some u → ev_vR ad ex u (if j = i then w else f j) := by
  intro j u hj
  by_cases hij : i = j
  · subst hij
    rw [List.getElem?_set_self hi] at hj
    cases hj
    rw [if_pos rfl]
    exact hv
  · rw [List.getElem?_set_ne hij] at hj
    rw [if_neg (fun z => hij z.symm)]
    exact h j u hj
section EvD
variable {p : Program} {l : Launch} {e : Env} {R : Room} {s : State} {m : MethodId} {args : Array Value} {below : List Frame} {meth : Method} {c : Code} {Q : State → Prop} {nL : Nat} {D : va_G} {cl : List vw_C} {A : Nat → Prop} {H0 : Heap} {ex : Nat → Value} {ad0 : List Nat} {tyOf : Nat → FieldType}
variable {cc : ByteArray} {pc : Nat}
theorem ev_rep {α : Type} {x : α} {n j : Nat} {v : α} (h : (List.replicate n x)[j]? = some v) : v = x := by
  rw [List.getElem?_replicate] at h
  split at h
  · exact (Option.some.inj h).symm
  · cases h
theorem ev_one {tys : List (ClassId × FieldType)} {q : ClassId × FieldType} : ∃ t0 : Nat, (tys ++ [q])[t0]? = some q := ⟨tys.length, by rw [List.getElem?_append_right (Nat.le_refl _), Nat.sub_self]; rfl⟩
theorem ev_last {h1 : Nat} {ws : va_W} {q : Nat} {x : va_E} (hw : ws.length = h1) : ((ws ++ [(q, x)]).map Prod.fst)[h1]? = some q := by
  subst hw
  rw [List.map_append, List.getElem?_append_right (by rw [List.length_map]; exact Nat.le_refl _), List.length_map, Nat.sub_self]
  rfl
/-- a new array of ints or what is narrower -/
theorem ev_newai_ok (hx : p.tables.exec = Jvm.exec) (hb : c.code = cc) {atype : ArrayType} (harr : (Cond.arrayClass (newarray.typeOf atype)).before args s = true) {ty : FieldType} (hty : newarray.typeOf atype = ty) {tc cm sm : Nat} (htc : tyOf tc = ty) (hkd : ev_kd ty = 0) (hdv : defaultValue ty = .int 0) (hby : componentBytes ty ≤ 8) (hA : ∀ q, H0.size ≤ q → A q) (hcm : cm ≤ R.cells) (hsm : sm ≤ R.slots) (hd : decode cc pc = .ok (.newarray atype, 2)) : ev_Sim p l e R s m args below meth c Q nL D cl A H0 ex ad0 tyOf pc (ev_newa (pc + 2) tc 0 cm sm) := by
  intro st pc' st' h g
  obtain ⟨N, stk, e1, hN, h1, h2, h3, rfl, rfl⟩ := ev_newa_i h
  intro H locs ls lv sv ws tys hK hP hD hS hh hl hn hL hs
  rw [e1] at hs
  obtain ⟨w, r, rfl, ⟨x, rfl, hx1, hx2⟩, hr⟩ := hs
  obtain ⟨f1, f2⟩ := ev_ix hx1 hx2
  have f3 := vp_in_iff.mp (f2 (N + 1) (Nat.lt_succ_self N))
  have h0 : ¬ x < 0 := fun z => by have := Int32.lt_iff_toInt_lt.mp z; rw [Int32.toInt_zero] at this; omega
  refine va_newa hx hb harr hty hK hP hD hS hA (a0 := (N, .inl (fun _ => 0))) (fun cA => by rw [vp_cell_i, hdv]) h0 f1 (by calc N * componentBytes ty ≤ 65536 * 8 := Nat.mul_le_mul (Nat.le_of_lt hN) hby
    _ ≤ 536870912 := by decide) (Nat.le_trans h2 hcm) (Nat.le_trans h3 hsm) hd (fun q cA H1 hK1 hP1 hD1 hS1 => ?_)
  refine g H1 locs ls lv (.ref q :: r) _ _ hK1 hP1 hD1 hS1 (ev_hR_push hh h1 ev_app ⟨cA, _, rfl, List.length_replicate, by omega, by rw [htc]; exact ev_one, ?_⟩) hl hn (ev_lR_mono ev_fst_push hL) ⟨_, _, rfl, ⟨q, ev_last hh.1, rfl⟩, ev_kR_mono ev_fst_push hr⟩
  rw [htc, hkd]
  exact ⟨_, rfl, fun j v hj => by rw [ev_rep hj]; exact ⟨0, rfl, Int.le_refl _, Int.le_refl _⟩⟩
theorem ev_newal_ok (hx : p.tables.exec = Jvm.exec) (hb : c.code = cc) {atype : ArrayType} (harr : (Cond.arrayClass (newarray.typeOf atype)).before args s = true) (hty : newarray.typeOf atype = .long) {tc cm sm : Nat} (htc : tyOf tc = .long) (hA : ∀ q, H0.size ≤ q → A q) (hcm : cm ≤ R.cells) (hsm : sm ≤ R.slots) (hd : decode cc pc = .ok (.newarray atype, 2)) : ev_Sim p l e R s m args below meth c Q nL D cl A H0 ex ad0 tyOf pc (ev_newa (pc + 2) tc 1 cm sm) := by
  intro st pc' st' h g
  obtain ⟨N, stk, e1, hN, h1, h2, h3, rfl, rfl⟩ := ev_newa_i h
  intro H locs ls lv sv ws tys hK hP hD hS hh hl hn hL hs
  rw [e1] at hs
  obtain ⟨w, r, rfl, ⟨x, rfl, hx1, hx2⟩, hr⟩ := hs
  obtain ⟨f1, f2⟩ := ev_ix hx1 hx2
  have f3 := vp_in_iff.mp (f2 (N + 1) (Nat.lt_succ_self N))
  have h0 : ¬ x < 0 := fun z => by have := Int32.lt_iff_toInt_lt.mp z; rw [Int32.toInt_zero] at this; omega
  refine va_newa hx hb harr hty hK hP hD hS hA (a0 := (N, .inr (.inl (fun _ => 0)))) (fun cA => by rw [vp_cell_l]; rfl) h0 f1 (by calc N * componentBytes .long ≤ 65536 * 8 := Nat.mul_le_mul (Nat.le_of_lt hN) (by decide)
    _ ≤ 536870912 := by decide) (Nat.le_trans h2 hcm) (Nat.le_trans h3 hsm) hd (fun q cA H1 hK1 hP1 hD1 hS1 => ?_)
  refine g H1 locs ls lv (.ref q :: r) _ _ hK1 hP1 hD1 hS1 (ev_hR_push hh h1 ev_app ⟨cA, _, rfl, List.length_replicate, by omega, by rw [htc]; exact ev_one, ?_⟩) hl hn (ev_lR_mono ev_fst_push hL) ⟨_, _, rfl, ⟨q, ev_last hh.1, rfl⟩, ev_kR_mono ev_fst_push hr⟩
  rw [htc]
  exact ⟨_, rfl, fun j v hj => by rw [ev_rep hj]; exact ⟨0, rfl, Int.le_refl _, Int.le_refl _⟩⟩
theorem ev_newq_ok (hx : p.tables.exec = Jvm.exec) (hb : c.code = cc) {own C : String} {index tc cm sm : Nat} (ho : s.vm.findClass own = some m.cls) (hcl : (Cond.classLink own index C).before args s = true) (hover : va_AO C s) (htc : tyOf tc = .object C) (hA : ∀ q, H0.size ≤ q → A q) (hcm : cm ≤ R.cells) (hsm : sm ≤ R.slots) (hd : decode cc pc = .ok (.anewarray index, 3)) : ev_Sim p l e R s m args below meth c Q nL D cl A H0 ex ad0 tyOf pc (ev_newa (pc + 3) tc 2 cm sm) := by
  intro st pc' st' h g
  obtain ⟨N, stk, e1, hN, h1, h2, h3, rfl, rfl⟩ := ev_newa_i h
  intro H locs ls lv sv ws tys hK hP hD hS hh hl hn hL hs
  rw [e1] at hs
  obtain ⟨w, r, rfl, ⟨x, rfl, hx1, hx2⟩, hr⟩ := hs
  obtain ⟨f1, f2⟩ := ev_ix hx1 hx2
  have f3 := vp_in_iff.mp (f2 (N + 1) (Nat.lt_succ_self N))
  have h0 : ¬ x < 0 := fun z => by have := Int32.lt_iff_toInt_lt.mp z; rw [Int32.toInt_zero] at this; omega
  refine va_newq hx hb ho hcl hover hK hP hD hS hA h0 f1 (by omega) (Nat.le_trans h2 hcm) (Nat.le_trans h3 hsm) hd (fun q cA H1 hK1 hP1 hD1 hS1 => ?_)
  refine g H1 locs ls lv (.ref q :: r) _ _ hK1 hP1 hD1 hS1 (ev_hR_push hh h1 ev_app ⟨cA, _, rfl, List.length_replicate, by omega, by rw [htc]; exact ev_one, ?_⟩) hl hn (ev_lR_mono ev_fst_push hL) ⟨_, _, rfl, ⟨q, ev_last hh.1, rfl⟩, ev_kR_mono ev_fst_push hr⟩
  rw [htc]
  exact ⟨_, rfl, fun j v hj => by rw [ev_rep hj]; exact rfl⟩
theorem ev_alen_ok (hx : p.tables.exec = Jvm.exec) (hb : c.code = cc) (hd : decode cc pc = .ok (.arraylength, 1)) : ev_Sim p l e R s m args below meth c Q nL D cl A H0 ex ad0 tyOf pc (ev_alen (pc + 1)) := by
  intro st pc' st' h g
  obtain ⟨k, stk, tc, len, els, e1, hq, rfl, rfl⟩ := ev_alen_i h
  intro H locs ls lv sv ws tys hK hP hD hS hh hl hn hL hs
  rw [e1] at hs
  obtain ⟨w, r, rfl, hw, hr⟩ := hs
  obtain ⟨a, e2, hwk, rfl⟩ := ev_place hw
  obtain ⟨cA, x, rfl, hlen, hlt, ⟨t0, ht0⟩, hel⟩ := ev_cell hh hwk hq
  have e9 : (Int32.ofNat len).toInt = Int.ofNat len := nI_toInt hlt
  exact va_alen hx hb hK hP k t0 hwk ht0 rfl hd (g H locs ls lv (.int (Int32.ofNat len) :: r) ws tys hK hP hD hS hh hl hn hL ⟨_, _, rfl, ⟨_, rfl, by rw [e9]; exact Int.le_refl _, by rw [e9]; exact Int.le_refl _⟩, hr⟩)
theorem ev_ald_gen {tc n : Nat} {ty : FieldType} (htc : tyOf tc = ty) (hkd : ev_kd ty = 0)
    (row : ∀ (H : Heap) (locs : List Loc) (cells slots : Nat) (ls : Array Slot) (rest : List Value) (ws : va_W) (tys : List (ClassId × FieldType)) (a q0 t0 : Nat) (cA : ClassId) (N : Nat) (f : Nat → Int32) (x : Int32), va_K D cl tys s → va_P D cl ws H → ws[q0]? = some (a, .inl (cA, N, .inl f)) → tys[t0]? = some (cA, ty) → vp_in x N → W p l e R s m args below meth c H locs cells slots Q (F0 m n ls (.int (f x.toNatClampNeg) :: rest)) → W p l e R s m args below meth c H locs cells slots Q (F0 m pc ls (.int x :: .ref a :: rest))) : ev_Sim p l e R s m args below meth c Q nL D cl A H0 ex ad0 tyOf pc (ev_ald n tc) := by
  intro st pc' st' h g
  obtain ⟨i, k, stk, len, els, v, e1, hq, hv, rfl, rfl⟩ := ev_ald_i h
  intro H locs ls lv sv ws tys hK hP hD hS hh hl hn hL hs
  rw [e1] at hs
  obtain ⟨w, r, rfl, ⟨x, rfl, hx1, hx2⟩, w2, r2, rfl, hw2, hr⟩ := hs
  obtain ⟨a, e2, hwk, rfl⟩ := ev_place hw2
  obtain ⟨cA, x9, rfl, hlen, hlt, ⟨t0, ht0⟩, hel⟩ := ev_cell hh hwk hq
  rw [htc] at ht0 hel
  rw [hkd] at hel
  obtain ⟨f, rfl, hf⟩ := hel
  obtain ⟨f1, f2⟩ := ev_ix hx1 hx2
  have hi : i < len := by rw [← hlen]; exact (List.getElem?_eq_some_iff.mp hv).1
  refine row H locs _ _ ls r2 ws tys a k t0 cA len f x hK hP hwk ht0 (f2 len hi) ?_
  rw [f1]
  exact g H locs ls lv (.int (f i) :: r2) ws tys hK hP hD hS hh hl hn hL ⟨_, _, rfl, hf i v hv, hr⟩
theorem ev_iald_ok (hx : p.tables.exec = Jvm.exec) (hb : c.code = cc) {tc : Nat} (htc : tyOf tc = .int) (hd : decode cc pc = .ok (.iaload, 1)) : ev_Sim p l e R s m args below meth c Q nL D cl A H0 ex ad0 tyOf pc (ev_ald (pc + 1) tc) :=
  ev_ald_gen htc rfl (fun _ _ _ _ _ _ _ _ _ q0 t0 _ _ _ _ hK hP ha ht hin k => va_iald hx hb hK hP q0 t0 ha ht hin hd k)
theorem ev_bald_ok (hx : p.tables.exec = Jvm.exec) (hb : c.code = cc) {tc : Nat} (htc : tyOf tc = .byte) (hd : decode cc pc = .ok (.baload, 1)) : ev_Sim p l e R s m args below meth c Q nL D cl A H0 ex ad0 tyOf pc (ev_ald (pc + 1) tc) :=
  ev_ald_gen htc rfl (fun _ _ _ _ _ _ _ _ _ q0 t0 _ _ _ _ hK hP ha ht hin k => va_bald hx hb hK hP q0 t0 ha ht hin hd k)
theorem ev_cald_ok (hx : p.tables.exec = Jvm.exec) (hb : c.code = cc) {tc : Nat} (htc : tyOf tc = .char) (hd : decode cc pc = .ok (.caload, 1)) : ev_Sim p l e R s m args below meth c Q nL D cl A H0 ex ad0 tyOf pc (ev_ald (pc + 1) tc) :=
  ev_ald_gen htc rfl (fun _ _ _ _ _ _ _ _ _ q0 t0 _ _ _ _ hK hP ha ht hin k => va_cald hx hb hK hP q0 t0 ha ht hin hd k)
theorem ev_lald_ok (hx : p.tables.exec = Jvm.exec) (hb : c.code = cc) {tc : Nat} (htc : tyOf tc = .long) (hd : decode cc pc = .ok (.laload, 1)) : ev_Sim p l e R s m args below meth c Q nL D cl A H0 ex ad0 tyOf pc (ev_ald (pc + 1) tc) := by
  intro st pc' st' h g
  obtain ⟨i, k, stk, len, els, v, e1, hq, hv, rfl, rfl⟩ := ev_ald_i h
  intro H locs ls lv sv ws tys hK hP hD hS hh hl hn hL hs
  rw [e1] at hs
  obtain ⟨w, r, rfl, ⟨x, rfl, hx1, hx2⟩, w2, r2, rfl, hw2, hr⟩ := hs
  obtain ⟨a, e2, hwk, rfl⟩ := ev_place hw2
  obtain ⟨cA, x9, rfl, hlen, hlt, ⟨t0, ht0⟩, hel⟩ := ev_cell hh hwk hq
  rw [htc] at ht0 hel
  obtain ⟨f, rfl, hf⟩ := hel
  obtain ⟨f1, f2⟩ := ev_ix hx1 hx2
  have hi : i < len := by rw [← hlen]; exact (List.getElem?_eq_some_iff.mp hv).1
  refine va_lald hx hb hK hP k t0 hwk ht0 (f2 len hi) hd ?_
  rw [f1]
  exact g H locs ls lv (.long (f i) :: r2) ws tys hK hP hD hS hh hl hn hL ⟨_, _, rfl, hf i v hv, hr⟩
theorem ev_aald_ok (hx : p.tables.exec = Jvm.exec) (hb : c.code = cc) {tc : Nat} {C : String} (htc : tyOf tc = .object C) (hd : decode cc pc = .ok (.aaload, 1)) : ev_Sim p l e R s m args below meth c Q nL D cl A H0 ex ad0 tyOf pc (ev_ald (pc + 1) tc) := by
  intro st pc' st' h g
  obtain ⟨i, k, stk, len, els, v, e1, hq, hv, rfl, rfl⟩ := ev_ald_i h
  intro H locs ls lv sv ws tys hK hP hD hS hh hl hn hL hs
  rw [e1] at hs
  obtain ⟨w, r, rfl, ⟨x, rfl, hx1, hx2⟩, w2, r2, rfl, hw2, hr⟩ := hs
  obtain ⟨a, e2, hwk, rfl⟩ := ev_place hw2
  obtain ⟨cA, x9, rfl, hlen, hlt, ⟨t0, ht0⟩, hel⟩ := ev_cell hh hwk hq
  rw [htc] at ht0 hel
  obtain ⟨f, rfl, hf⟩ := hel
  obtain ⟨f1, f2⟩ := ev_ix hx1 hx2
  have hi : i < len := by rw [← hlen]; exact (List.getElem?_eq_some_iff.mp hv).1
  refine va_aldq hx hb hK hP k t0 hwk ht0 (f2 len hi) hd ?_
  rw [f1]
  exact g H locs ls lv (va_rf (f i) :: r2) ws tys hK hP hD hS hh hl hn hL ⟨_, _, rfl, hf i v hv, hr⟩
theorem ev_ast_gen {tc tk n : Nat} {ty : FieldType} {nr : Int32 → Int32} (htc : tyOf tc = ty) (hkd : ev_kd ty = 0)
    (hnr : ∀ (ad : List Nat) (ex : Nat → Value) (v' : ev_V) (w : Value), ev_narP tk ad ex v' w → ∃ x : Int32, w = .int x ∧ ev_vR ad ex v' (.int (nr x)))
    (row : ∀ (H : Heap) (locs : List Loc) (cells slots : Nat) (ls : Array Slot) (rest : List Value) (ws : va_W) (tys : List (ClassId × FieldType)) (a q0 t0 : Nat) (cA : ClassId) (N : Nat) (f : Nat → Int32) (i x : Int32), va_K D cl tys s → va_P D cl ws H → va_D A ws → va_S A H0 H locs → ws[q0]? = some (a, .inl (cA, N, .inl f)) → tys[t0]? = some (cA, ty) → vp_in i N →
      (∀ (H1 : Heap) (locs1 : List Loc), va_P D cl (ws.set q0 (a, .inl (cA, N, .inl (upd f i.toNatClampNeg (nr x))))) H1 → va_D A (ws.set q0 (a, .inl (cA, N, .inl (upd f i.toNatClampNeg (nr x))))) → va_S A H0 H1 locs1 → W p l e R s m args below meth c H1 locs1 cells slots Q (F0 m n ls rest)) → W p l e R s m args below meth c H locs cells slots Q (F0 m pc ls (.int x :: .int i :: .ref a :: rest))) : ev_Sim p l e R s m args below meth c Q nL D cl A H0 ex ad0 tyOf pc (ev_ast n tc tk) := by
  intro st pc' st' h g
  obtain ⟨v, v', i, k, stk, len, els, e1, hq, hi, rfl, rfl, hv⟩ := ev_ast_i h
  intro H locs ls lv sv ws tys hK hP hD hS hh hl hn hL hs
  rw [e1] at hs
  obtain ⟨w, r, rfl, hw, w1, r1, rfl, ⟨y, rfl, hy1, hy2⟩, w2, r2, rfl, hw2, hr⟩ := hs
  obtain ⟨a, e2, hwk, rfl⟩ := ev_place hw2
  obtain ⟨cA, x9, rfl, hlen, hlt, ⟨t0, ht0⟩, hel⟩ := ev_cell hh hwk hq
  have ht1 := ht0
  rw [htc] at ht1 hel
  rw [hkd] at hel
  obtain ⟨f, rfl, hf⟩ := hel
  obtain ⟨f1, f2⟩ := ev_ix hy1 hy2
  obtain ⟨x, rfl, hv1⟩ := hnr _ _ _ _ (hv _ _ _ hw)
  refine row H locs _ _ ls r2 ws tys a k t0 cA len f y x hK hP hD hS hwk ht1 (f2 len (by rw [← hlen]; exact hi)) (fun H1 locs1 hP1 hD1 hS1 => ?_)
  rw [f1] at hP1 hD1
  have ea := ev_fst_set (e' := .inl (cA, len, .inl (upd f i (nr x)))) hwk
  refine g H1 locs1 ls lv r2 _ tys hK hP1 hD1 hS1 (ev_hR_set hh hwk ⟨cA, _, rfl, by rw [List.length_set]; exact hlen, hlt, ⟨t0, ht0⟩, ?_⟩) hl hn (by rw [ea]; exact hL) (by rw [ea]; exact hr)
  rw [htc, hkd]
  refine ⟨_, rfl, fun j u hj => ?_⟩
  have h9 := ev_upd hf hi hv1 j u hj
  unfold upd
  by_cases hji : j = i
  · rw [if_pos hji] at h9 ⊢
    exact h9
  · rw [if_neg hji] at h9 ⊢
    exact h9
theorem ev_iast_ok (hx : p.tables.exec = Jvm.exec) (hb : c.code = cc) {tc : Nat} (htc : tyOf tc = .int) (hd : decode cc pc = .ok (.iastore, 1)) : ev_Sim p l e R s m args below meth c Q nL D cl A H0 ex ad0 tyOf pc (ev_ast (pc + 1) tc 0) :=
  ev_ast_gen (nr := fun x => x) htc rfl (fun _ _ _ _ h => h) (fun _ _ _ _ _ _ _ _ _ q0 t0 _ _ _ _ _ hK hP hD hS ha ht hin k => va_iast hx hb hK hP hD hS q0 t0 ha ht hin hd k)
theorem ev_bast_ok (hx : p.tables.exec = Jvm.exec) (hb : c.code = cc) {tc : Nat} (htc : tyOf tc = .byte) (hd : decode cc pc = .ok (.bastore, 1)) : ev_Sim p l e R s m args below meth c Q nL D cl A H0 ex ad0 tyOf pc (ev_ast (pc + 1) tc 2) :=
  ev_ast_gen (nr := fun x => vp_nar .byte x) htc rfl (fun _ _ _ _ h => h) (fun _ _ _ _ _ _ _ _ _ q0 t0 _ _ _ _ _ hK hP hD hS ha ht hin k => va_bast hx hb hK hP hD hS q0 t0 ha ht hin hd k)
theorem ev_cast_ok (hx : p.tables.exec = Jvm.exec) (hb : c.code = cc) {tc : Nat} (htc : tyOf tc = .char) (hd : decode cc pc = .ok (.castore, 1)) : ev_Sim p l e R s m args below meth c Q nL D cl A H0 ex ad0 tyOf pc (ev_ast (pc + 1) tc 3) :=
  ev_ast_gen (nr := fun x => vp_nar .char x) htc rfl (fun _ _ _ _ h => h) (fun _ _ _ _ _ _ _ _ _ q0 t0 _ _ _ _ _ hK hP hD hS ha ht hin k => va_cast hx hb hK hP hD hS q0 t0 ha ht hin hd k)
theorem ev_last_ok (hx : p.tables.exec = Jvm.exec) (hb : c.code = cc) {tc : Nat} (htc : tyOf tc = .long) (hd : decode cc pc = .ok (.lastore, 1)) : ev_Sim p l e R s m args below meth c Q nL D cl A H0 ex ad0 tyOf pc (ev_ast (pc + 1) tc 4) := by
  intro st pc' st' h g
  obtain ⟨v, v', i, k, stk, len, els, e1, hq, hi, rfl, rfl, hv⟩ := ev_ast_i h
  intro H locs ls lv sv ws tys hK hP hD hS hh hl hn hL hs
  rw [e1] at hs
  obtain ⟨w, r, rfl, hw, w1, r1, rfl, ⟨y, rfl, hy1, hy2⟩, w2, r2, rfl, hw2, hr⟩ := hs
  obtain ⟨a, e2, hwk, rfl⟩ := ev_place hw2
  obtain ⟨cA, x9, rfl, hlen, hlt, ⟨t0, ht0⟩, hel⟩ := ev_cell hh hwk hq
  have ht1 := ht0
  rw [htc] at ht1 hel
  obtain ⟨f, rfl, hf⟩ := hel
  obtain ⟨f1, f2⟩ := ev_ix hy1 hy2
  obtain ⟨x, rfl, hv1⟩ := hv _ _ _ hw
  refine va_last hx hb hK hP hD hS k t0 hwk ht1 (f2 len (by rw [← hlen]; exact hi)) hd (fun H1 locs1 hP1 hD1 hS1 => ?_)
  rw [f1] at hP1 hD1
  have ea := ev_fst_set (e' := .inl (cA, len, .inr (.inl (vp_updL f i x)))) hwk
  refine g H1 locs1 ls lv r2 _ tys hK hP1 hD1 hS1 (ev_hR_set hh hwk ⟨cA, _, rfl, by rw [List.length_set]; exact hlen, hlt, ⟨t0, ht0⟩, ?_⟩) hl hn (by rw [ea]; exact hL) (by rw [ea]; exact hr)
  rw [htc]
  refine ⟨_, rfl, fun j u hj => ?_⟩
  have h9 := ev_upd hf hi hv1 j u hj
  unfold vp_updL
  by_cases hji : j = i
  · rw [if_pos hji] at h9 ⊢
    exact h9
  · rw [if_neg hji] at h9 ⊢
    exact h9
theorem ev_astq_ok (hx : p.tables.exec = Jvm.exec) (hb : c.code = cc) {tc ci : Nat} {r0 : vw_C} (hc : cl[ci]? = some r0) (htc : tyOf tc = .object r0.1) (hd : decode cc pc = .ok (.aastore, 1)) : ev_Sim p l e R s m args below meth c Q nL D cl A H0 ex ad0 tyOf pc (ev_astq (pc + 1) tc ci) := by
  intro st pc' st' h g
  obtain ⟨v, i, k, stk, len, els, e1, hq, hi, rfl, rfl, hv⟩ := ev_astq_i h
  intro H locs ls lv sv ws tys hK hP hD hS hh hl hn hL hs
  rw [e1] at hs
  obtain ⟨w, r, rfl, hw, w1, r1, rfl, ⟨y, rfl, hy1, hy2⟩, w2, r2, rfl, hw2, hr⟩ := hs
  obtain ⟨a, e2, hwk, rfl⟩ := ev_place hw2
  obtain ⟨cA, x9, rfl, hlen, hlt, ⟨t0, ht0⟩, hel⟩ := ev_cell hh hwk hq
  have ht1 := ht0
  rw [htc] at ht1 hel
  obtain ⟨f, rfl, hf⟩ := hel
  obtain ⟨f1, f2⟩ := ev_ix hy1 hy2
  have fin : ∀ (o : Option Nat) (H1 : Heap) (locs1 : List Loc), ev_vR (ws.map Prod.fst) ex (.inr (.inr v)) (va_rf o) → va_P D cl (ws.set k (a, .inl (cA, len, .inr (.inr (.inr (.inr (va_up f i o))))))) H1 → va_D A (ws.set k (a, .inl (cA, len, .inr (.inr (.inr (.inr (va_up f i o))))))) → va_S A H0 H1 locs1 → W p l e R s m args below meth c H1 locs1 st.2.2.2.1 st.2.2.2.2 Q (F0 m (pc + 1) ls r2) := by
    intro o H1 locs1 ho hP1 hD1 hS1
    have ea := ev_fst_set (e' := .inl (cA, len, .inr (.inr (.inr (.inr (va_up f i o)))))) hwk
    refine g H1 locs1 ls lv r2 _ tys hK hP1 hD1 hS1 (ev_hR_set hh hwk ⟨cA, _, rfl, by rw [List.length_set]; exact hlen, hlt, ⟨t0, ht0⟩, ?_⟩) hl hn (by rw [ea]; exact hL) (by rw [ea]; exact hr)
    rw [htc]
    refine ⟨_, rfl, fun j u hj => ?_⟩
    have h9 := ev_upd hf hi ho j u hj
    unfold va_up
    by_cases hji : j = i
    · rw [if_pos hji] at h9 ⊢
      exact h9
    · rw [if_neg hji] at h9 ⊢
      exact h9
  rcases hv with rfl | ⟨j, fs, rfl, hj⟩
  · rw [show w = Value.null from hw]
    refine va_astqN hx hb hK hP hD hS k t0 hwk ht1 (f2 len (by rw [← hlen]; exact hi)) hd (fun H1 locs1 hP1 hD1 hS1 => ?_)
    rw [f1] at hP1 hD1
    exact fin none H1 locs1 rfl hP1 hD1 hS1
  · obtain ⟨b, e3, hwj, rfl⟩ := ev_place hw
    obtain ⟨vs, rfl, -, -⟩ := ev_cell hh hwj hj
    refine va_astq hx hb hK hP hD hS k t0 j ci hwk ht1 hwj hc (f2 len (by rw [← hlen]; exact hi)) hd (fun H1 locs1 hP1 hD1 hS1 => ?_)
    rw [f1] at hP1 hD1
    exact fin (some b) H1 locs1 hw hP1 hD1 hS1
end EvD
end
section
/-! RUNS AND CALLS. -/
/-- on till a place that stops: what stops there, where, and the picture -/
def ev_run (code : Nat → Option (ev_I ⊕ Nat)) : Nat → Nat → ev_S → Option (Nat × Nat × ev_S)
  | 0, _, _ => none
  | n + 1, pc, st => match code pc with
    | some (.inl f) => match f st with
      | some (pc', st') => ev_run code n pc' st'
      | none => none
    | some (.inr k) => some (k, pc, st)
    | none => none
/-- a method's evaluator: its number, its arguments, the heap -/
abbrev ev_E : Type := Nat → List ev_V → ev_Hp → Option (Option ev_V × ev_Hp)
def ev_pops : Nat → List ev_V → List ev_V → Option (List ev_V × List ev_V)
  | 0, r, acc => some (acc, r)
  | n + 1, r, acc => match r with
    | v :: r' => ev_pops n r' (v :: acc)
    | [] => none
theorem ev_pops_i : ∀ (n : Nat) (r acc as rest : List ev_V), ev_pops n r acc = some (as, rest) → ∃ bs : List ev_V, bs.length = n ∧ r = bs ++ rest ∧ as = bs.reverse ++ acc
  | 0, r, acc, as, rest, h => by cases h; exact ⟨[], rfl, rfl, rfl⟩
  | n + 1, v :: r', acc, as, rest, h => by
    obtain ⟨bs, h1, h2, h3⟩ := ev_pops_i n r' (v :: acc) as rest h
    exact ⟨v :: bs, by rw [List.length_cons, h1], by rw [h2]; rfl, by rw [h3, List.reverse_cons, List.append_assoc]; rfl⟩
def ev_cats : List ev_V → Nat
  | [] => 0
  | v :: l => cond (ev_long v) (2 + ev_cats l) (1 + ev_cats l)
theorem ev_cats_ok {ad : List Nat} {ex : Nat → Value} : ∀ {l : List ev_V} {sv : List Value}, ev_kR ad ex l sv → (sv.map fun v => v.category).sum = ev_cats l
  | [], sv, h => by rw [show sv = [] from h]; rfl
  | v :: l, sv, ⟨w, r, h1, h2, h3⟩ => by
    have ih := ev_cats_ok h3
    rw [h1, List.map_cons, List.sum_cons, ih]
    show w.category + ev_cats l = cond (ev_long v) (2 + ev_cats l) (1 + ev_cats l)
    cases hv : ev_long v with
    | false => rw [ev_cat h2 hv]; rfl
    | true =>
      match v, h2, hv with
      | .inr (.inl (lo, hi)), ⟨x, h4, _⟩, _ => rw [h4]; rfl
theorem ev_kR_app {ad : List Nat} {ex : Nat → Value} : ∀ {l1 l2 : List ev_V} {sv : List Value}, ev_kR ad ex (l1 ++ l2) sv → ∃ s1 s2, sv = s1 ++ s2 ∧ s1.length = l1.length ∧ ev_kR ad ex l1 s1 ∧ ev_kR ad ex l2 s2
  | [], l2, sv, h => ⟨[], sv, rfl, rfl, rfl, h⟩
  | v :: l1, l2, sv, ⟨w, r, h1, h2, h3⟩ => by
    obtain ⟨s1, s2, e1, e2, h4, h5⟩ := ev_kR_app h3
    exact ⟨w :: s1, s2, by rw [h1, e1]; rfl, by rw [List.length_cons, List.length_cons, e2], ⟨w, s1, rfl, h2, h4⟩, h5⟩
theorem ev_kR_cat {ad : List Nat} {ex : Nat → Value} : ∀ {l1 l2 : List ev_V} {s1 s2 : List Value}, ev_kR ad ex l1 s1 → ev_kR ad ex l2 s2 → ev_kR ad ex (l1 ++ l2) (s1 ++ s2)
  | [], _, s1, s2, h1, h2 => by rw [show s1 = [] from h1]; exact h2
  | _ :: _, _, _, s2, ⟨w, r, h1, h2, h3⟩, h4 => ⟨w, r ++ s2, by rw [h1]; rfl, h2, ev_kR_cat h3 h4⟩
theorem ev_kR_rev {ad : List Nat} {ex : Nat → Value} : ∀ {l : List ev_V} {sv : List Value}, ev_kR ad ex l sv → ev_kR ad ex l.reverse sv.reverse
  | [], sv, h => by rw [show sv = [] from h]; exact rfl
  | v :: l, sv, ⟨w, r, h1, h2, h3⟩ => by
    rw [h1, List.reverse_cons, List.reverse_cons]
    exact ev_kR_cat (ev_kR_rev h3) ⟨w, [], rfl, h2, rfl⟩
theorem ev_kR_len {ad : List Nat} {ex : Nat → Value} : ∀ {l : List ev_V} {sv : List Value}, ev_kR ad ex l sv → sv.length = l.length
  | [], sv, h => by rw [show sv = [] from h]; rfl
  | v :: l, sv, ⟨w, r, h1, h2, h3⟩ => by rw [h1, List.length_cons, List.length_cons, ev_kR_len h3]
/-- the receiver is a cell of that class -/
def ev_recv (i : Nat) (h : ev_Hp) (as : List ev_V) : Bool := match as with
  | .inr (.inr (some (.inl k))) :: _ => (match ev_tg 10 h.2 k with
    | some (.inl (i', _)) => Nat.beq i' i
    | _ => false)
  | _ => false
def ev_rc1 (_ : ev_Hp) (_ : List ev_V) : Bool := true
def ev_call (n mid na cmx smx cm sm : Nat) (rc : ev_Hp → List ev_V → Bool) (E : ev_E) : ev_I := fun st => match st with
  | (stk, L, h, (c1, n1)) => match ev_pops na stk [] with
    | some (as, rest) => (match E mid as h with
      | some (rv, h') => cond (Nat.ble (ev_cats rest) 8 && (Nat.ble (c1 + cmx) cm && (Nat.ble (n1 + smx) sm && rc h as))) (ev_fN (c1 + cmx) (fun c' => ev_fN (n1 + smx) (fun n' => some (n, ((match rv with
          | none => rest
          | some v => v :: rest), L, h', (c', n')))))) none
      | none => none)
    | none => none
def ev_oR (ad : List Nat) (ex : Nat → Value) : Option ev_V → Option Value → Prop
  | none, o => o = none
  | some v, o => ∃ w, o = some w ∧ ev_vR ad ex v w
/-- what holds where a method begins -/
def ev_Pr (D : va_G) (cl : List vw_C) (A : Nat → Prop) (ex : Nat → Value) (tyOf : Nat → FieldType) (XT : State → Prop) (h : ev_Hp) (w : va_W) (tys : List (ClassId × FieldType)) (U : State) : Prop :=
  va_P D cl w U.heap ∧ va_K D cl tys U ∧ va_D A w ∧ (∀ q, U.heap.size ≤ q → A q) ∧ ev_hR [] tyOf tys ex h w ∧ XT U
/-- .. and where it has returned -/
def ev_Qo (D : va_G) (cl : List vw_C) (A : Nat → Prop) (ex : Nat → Value) (tyOf : Nat → FieldType) (ad : List Nat) (rv : Option ev_V) (h' : ev_Hp) : Array Value → State → Outcome → State → Prop := fun _ st oc t =>
  (∃ (ov : Option Value) (w' : va_W) (tys' : List (ClassId × FieldType)), oc = .returned ov ∧ ev_oR (w'.map Prod.fst) ex rv ov ∧ va_P D cl w' t.heap ∧ va_K D cl tys' t ∧ va_D A w' ∧ ev_hR ad tyOf tys' ex h' w') ∧ va_F A st t
/-- every run of the evaluator is a run of the machine -/
def ev_Snd (l : Launch) (D : va_G) (cl : List vw_C) (A : Nat → Prop) (ex : Nat → Value) (tyOf : Nat → FieldType) (XT : State → Prop) (yOf : Nat → MethodName) (wsOf : Nat → List Cond) (cmOf smOf : Nat → Nat) (d : Nat) (E : ev_E) : Prop :=
  ∀ (mid : Nat) (as : List ev_V) (h : ev_Hp) (rv : Option ev_V) (h' : ev_Hp), E mid as h = some (rv, h') → ∀ (w : va_W) (tys : List (ClassId × FieldType)) (vals : List Value), ev_kR (w.map Prod.fst) ex as vals →
    Met l (yOf mid) (wsOf mid) ({ frames := d, cells := cmOf mid, slots := smOf mid, locals := 64 * d } : Room) (va_Pc vals (ev_Pr D cl A ex tyOf XT h w tys)) (ev_Qo D cl A ex tyOf (w.map Prod.fst) rv h') (cmOf mid) (smOf mid) A
theorem ev_call_i {st st' : ev_S} {n mid na cmx smx cm sm pc' : Nat} {rc : ev_Hp → List ev_V → Bool} {E : ev_E} (h : ev_call n mid na cmx smx cm sm rc E st = some (pc', st')) : ∃ bs rest rv h', st.1 = bs ++ rest ∧ bs.length = na ∧ E mid bs.reverse st.2.2.1 = some (rv, h') ∧ ev_cats rest ≤ 8 ∧ st.2.2.2.1 + cmx ≤ cm ∧ st.2.2.2.2 + smx ≤ sm ∧ rc st.2.2.1 bs.reverse = true ∧ pc' = n ∧ st' = ((match rv with
    | none => rest
    | some v => v :: rest), st.2.1, h', (st.2.2.2.1 + cmx, st.2.2.2.2 + smx)) := by
  obtain ⟨stk, L, hp, c1, n1⟩ := st
  simp only [ev_call, ev_fN_eq] at h
  split at h
  · next as rest hp2 =>
    obtain ⟨bs, e1, e2, e3⟩ := ev_pops_i _ _ _ _ _ hp2
    rw [List.append_nil] at e3
    subst e3
    split at h
    · next rv h' hE =>
      obtain ⟨a1, h9⟩ := ev_bt1 h
      clear h
      rw [Bool.and_eq_true, Bool.and_eq_true, Bool.and_eq_true] at a1
      obtain ⟨a1, a2, a3, a4⟩ := a1
      cases h9
      exact ⟨bs, rest, rv, h', e2, e1, hE, Nat.le_of_ble_eq_true a1, Nat.le_of_ble_eq_true a2, Nat.le_of_ble_eq_true a3, a4, rfl, rfl⟩
    · cases h
  · cases h
theorem ev_hR_ad {ad0 ad : List Nat} {tyOf : Nat → FieldType} {tys : List (ClassId × FieldType)} {ex : Nat → Value} {h : ev_Hp} {ws : va_W} (hm : ∀ k a : Nat, ad0[k]? = some a → ad[k]? = some a) (hh : ev_hR ad tyOf tys ex h ws) : ev_hR ad0 tyOf tys ex h ws :=
  ⟨hh.1, hh.2.1, fun k a z => hh.2.2.1 k a (hm k a z), hh.2.2.2⟩
section EvF
variable {p : Program} {l : Launch} {e : Env} {R : Room} {s : State} {m : MethodId} {args : Array Value} {below : List Frame} {meth : Method} {c : Code} {Q : State → Prop} {nL : Nat} {D : va_G} {cl : List vw_C} {A : Nat → Prop} {H0 : Heap} {ex : Nat → Value} {ad0 : List Nat} {tyOf : Nat → FieldType}
variable {cc : ByteArray} {pc : Nat}
theorem ev_run_ok {code : Nat → Option (ev_I ⊕ Nat)} (hsim : ∀ pc f, code pc = some (.inl f) → ev_Sim p l e R s m args below meth c Q nL D cl A H0 ex ad0 tyOf pc f) : ∀ (n pc : Nat) (st : ev_S) (k pc1 : Nat) (st1 : ev_S), ev_run code n pc st = some (k, pc1, st1) → code pc1 = some (.inr k) ∧ (ev_G p l e R s m args below meth c Q nL D cl A H0 ex ad0 tyOf pc1 st1 → ev_G p l e R s m args below meth c Q nL D cl A H0 ex ad0 tyOf pc st)
  | 0, _, _, _, _, _, h => by cases h
  | n + 1, pc, st, k, pc1, st1, h => by
    simp only [ev_run] at h
    split at h
    · next f hf =>
      split at h
      · next pc' st' hs =>
        obtain ⟨h1, h2⟩ := ev_run_ok hsim n pc' st' k pc1 st1 h
        exact ⟨h1, fun g => hsim pc f hf st pc' st' hs (h2 g)⟩
      · cases h
    · next k' hk =>
      cases h
      exact ⟨hk, fun g => g⟩
    · cases h
/-- behind a call -/
theorem ev_after {H : Heap} {locs : List Loc} {cells slots mc ms : Nat} {ls : Array Slot} {st0 rest : List Value} {a : Array Value} {ad : List Nat} {rv : Option ev_V} {h' : ev_Hp} (hr : va_Run p l e R s m args below meth c H locs cells slots mc ms (F0 m pc ls st0) rest (ev_Qo D cl A ex tyOf ad rv h' a) A) (hS : va_S A H0 H locs)
    (kk : ∀ (ov : Option Value) (w' : va_W) (tys' : List (ClassId × FieldType)) (H1 : Heap) (locs1 : List Loc), ev_oR (w'.map Prod.fst) ex rv ov → va_P D cl w' H1 → va_K D cl tys' s → va_D A w' → ev_hR ad tyOf tys' ex h' w' → va_S A H0 H1 locs1 → W p l e R s m args below meth c H1 locs1 (cells + mc) (slots + ms) Q (F0 m (pc + 3) ls (ov.toList ++ rest))) : W p l e R s m args below meth c H locs cells slots Q (F0 m pc ls st0) := by
  intro T hT X
  obtain ⟨v, st₀, t, T', L, h0, X', hL, e1, e2, ⟨⟨ov, w', tys', hv, ho, hP, hK, hD, hh⟩, hz, hk⟩, st⟩ := hr T hT X
  cases hv
  rw [h0] at hz hk
  have hal : t.vm.Alike s.vm := by
    have h1 : s.vm.Alike t.vm := by rw [← e2]; exact X'.warmed.alike
    exact h1.symm
  obtain ⟨t2, a1, b1⟩ := kk v w' tys' T'.heap (locs ++ L) ho (by rw [e1]; exact hP) (va_K.moved hal hK) hD hh
    ⟨Nat.le_trans hS.1 (by rw [e1]; exact hz), fun q h1 h2 => by rw [e1, hk q (Nat.lt_of_lt_of_le h1 hS.1) h2]; exact hS.2.1 q h1 h2, fun q hq => by
      rcases List.mem_append.mp hq with h | h
      · exact hS.2.2 q h
      · exact hL q h⟩ T' rfl X'
  exact ⟨t2, st t2 a1, b1⟩
variable {XT : State → Prop} {yOf : Nat → MethodName} {wsOf : Nat → List Cond} {cmOf smOf : Nat → Nat} {d : Nat}
/-- a call of any kind: 'run' is the kit's row for it -/
theorem ev_call_gen {mid na cm sm : Nat} {rc : ev_Hp → List ev_V → Bool} {E : ev_E} (hE : ev_Snd l D cl A ex tyOf XT yOf wsOf cmOf smOf d E) (hcm : cm ≤ R.cells) (hsm : sm ≤ R.slots)
    (run : ∀ (H : Heap) (locs : List Loc) (cells slots : Nat) (ls : Array Slot) (w : va_W) (tys : List (ClassId × FieldType)) (h h' : ev_Hp) (rv : Option ev_V) (as : List ev_V) (vals rest : List Value), va_K D cl tys s → va_P D cl w H → va_D A w → va_S A H0 H locs → ev_hR ad0 tyOf tys ex h w → ls.size = nL → ev_kR (w.map Prod.fst) ex as vals → vals.length = na → rc h as = true → (rest.map fun v => v.category).sum ≤ 8 → cells + cmOf mid ≤ R.cells → slots + smOf mid ≤ R.slots →
      Met l (yOf mid) (wsOf mid) ({ frames := d, cells := cmOf mid, slots := smOf mid, locals := 64 * d } : Room) (va_Pc vals (ev_Pr D cl A ex tyOf XT h w tys)) (ev_Qo D cl A ex tyOf (w.map Prod.fst) rv h') (cmOf mid) (smOf mid) A →
      va_Run p l e R s m args below meth c H locs cells slots (cmOf mid) (smOf mid) (F0 m pc ls (vals.reverse ++ rest)) rest (ev_Qo D cl A ex tyOf (w.map Prod.fst) rv h' vals.toArray) A) : ev_Sim p l e R s m args below meth c Q nL D cl A H0 ex ad0 tyOf pc (ev_call (pc + 3) mid na (cmOf mid) (smOf mid) cm sm rc E) := by
  intro st pc' st' h g
  obtain ⟨bs, rest, rv, h', e1, e2, hEm, f1, f2, f3, f4, rfl, rfl⟩ := ev_call_i h
  intro H locs ls lv sv ws tys hK hP hD hS hh hl hn hL hs
  rw [e1] at hs
  obtain ⟨s1, s2, rfl, hlen, hs1, hs2⟩ := ev_kR_app hs
  have hv := ev_kR_rev hs1
  have hmet := hE mid bs.reverse st.2.2.1 rv h' hEm ws tys s1.reverse hv
  have hr := run H locs st.2.2.2.1 st.2.2.2.2 ls ws tys st.2.2.1 h' rv bs.reverse s1.reverse s2 hK hP hD hS hh hl.1 hv (by rw [List.length_reverse, hlen, e2]) f4 (by rw [ev_cats_ok hs2]; exact f1) (Nat.le_trans f2 hcm) (Nat.le_trans f3 hsm) hmet
  rw [List.reverse_reverse] at hr
  refine ev_after hr hS (fun ov w' tys' H1 locs1 ho hP1 hK1 hD1 hh1 hS1 => ?_)
  have hm : ∀ k a : Nat, (ws.map Prod.fst)[k]? = some a → (w'.map Prod.fst)[k]? = some a := hh1.2.2.1
  refine g H1 locs1 ls lv (ov.toList ++ s2) w' tys' hK1 hP1 hD1 hS1 (ev_hR_ad hh.2.2.1 hh1) hl hn (ev_lR_mono hm hL) ?_
  match rv, ho with
  | none, ho => rw [show ov = none from ho]; exact ev_kR_mono hm hs2
  | some v, ⟨w, ho, hw⟩ => rw [ho]; exact ⟨w, s2, rfl, hw, ev_kR_mono hm hs2⟩
/-- what is said of things outside holds wherever nothing outside the world has changed -/
def ev_Xok (A : Nat → Prop) (XT : State → Prop) : Prop := ∀ s U : State, s.vm.Alike U.vm → s.heap.size ≤ U.heap.size → (∀ q : Nat, q < s.heap.size → ¬ A q → U.heap[q]? = s.heap[q]?) → XT s → XT U
theorem ev_blind (hX : ev_Xok A XT) {vals : List Value} {h : ev_Hp} {w : va_W} {tys : List (ClassId × FieldType)} : FrameBlind (va_Pc vals (ev_Pr D cl A ex tyOf XT h w tys)) := by
  intro a U g mk q
  obtain ⟨q0, q1, q2, q3, q4, q5, q6⟩ := q
  exact ⟨q0, q1, va_K.moved (u := U) (U := U.calling g mk a) (Vm.Alike.refl U.vm) q2, q3, q4, q5, hX U (U.calling g mk a) (Vm.Alike.refl U.vm) (Nat.le_refl _) (fun _ _ _ => rfl) q6⟩
/-- the callee's start, from the caller's -/
theorem ev_start (hX : ev_Xok A XT) (hXs : XT s) (hA : ∀ q, s.heap.size ≤ q → A q) {H : Heap} {locs : List Loc} {w : va_W} {tys : List (ClassId × FieldType)} {h : ev_Hp} {vals : List Value} (hK : va_K D cl tys s) (hP : va_P D cl w H) (hD : va_D A w) (hS : va_S A s.heap H locs) (hh : ev_hR ad0 tyOf tys ex h w) : ∀ U : State, U.heap = H → s.WarmedH U.vm → va_Pc vals (ev_Pr D cl A ex tyOf XT h w tys) vals.toArray U := by
  intro U hU hW
  refine ⟨rfl, by rw [hU]; exact hP, va_K.moved hW.alike hK, hD, fun q hq => hA q (Nat.le_trans hS.1 (by rw [← hU]; exact hq)), ev_hR_ad (fun k a z => by simp at z) hh, hX s U hW.alike (by rw [hU]; exact hS.1) (fun q h1 h2 => by rw [hU]; exact hS.2.1 q h1 h2) hXs⟩
end EvF
end
section
/-! METHODS: the kinds of calls, returns, and every run of the evaluator a run of the machine. -/
def ev_objinit (n : Nat) : ev_I := fun st => match st with
  | (.inr (.inr (some (.inl _))) :: stk, r) => cond (Nat.ble (ev_cats stk) 8) (some (n, (stk, r))) none
  | _ => none
def ev_lay : List ev_V → List (Option ev_V)
  | [] => []
  | v :: l => cond (ev_long v) (some v :: none :: ev_lay l) (some v :: ev_lay l)
def ev_ent (nL : Nat) (as : List ev_V) : List (Option ev_V) := ev_lay as ++ List.replicate (nL - (ev_lay as).length) none
/-- what stops a method: 0 return, 1 an int, 2 a boolean, 3 a char, 4 a byte, 5 a reference -/
def ev_out (k : Nat) (stk : List ev_V) (h' : ev_Hp) : Option (Option ev_V × ev_Hp) := match k, stk with
  | 0, [] => some (none, h')
  | 1, [.inl v] => some (some (.inl v), h')
  | 2, [.inl (lo, hi)] => cond (decide (0 ≤ lo) && decide (hi ≤ 1)) (some (some (.inl (lo, hi)), h')) none
  | 3, [.inl (lo, hi)] => cond (decide (0 ≤ lo) && decide (hi ≤ 65535)) (some (some (.inl (lo, hi)), h')) none
  | 4, [.inl (lo, hi)] => cond (decide (0 ≤ lo) && decide (hi ≤ 127)) (some (some (.inl (lo, hi)), h')) none
  | 5, [.inr (.inr v)] => some (some (.inr (.inr v)), h')
  | _, _ => none
def ev_M (mc : Nat → ev_E → Nat → Option (ev_I ⊕ Nat)) (nLOf cmOf smOf : Nat → Nat) (fuel : Nat) : Nat → ev_E
  | 0 => fun _ _ _ => none
  | d + 1 => fun mid as h => match ev_run (mc mid (ev_M mc nLOf cmOf smOf fuel d)) fuel 0 ([], ev_ent (nLOf mid) as, h, (0, 0)) with
    | some (k, _, (stk, _, h', (c1, n1))) => cond (Nat.ble (ev_lay as).length (nLOf mid) && (Nat.ble c1 (cmOf mid) && Nat.ble n1 (smOf mid))) (ev_out k stk h') none
    | none => none
def ev_stop (k : Nat) (cc : ByteArray) (pc : Nat) (ret : Option FieldType) : Prop := match k with
  | 0 => decode cc pc = .ok (.return_, 1) ∧ ret = none
  | 1 => decode cc pc = .ok (.ireturn, 1) ∧ ret = some .int
  | 2 => decode cc pc = .ok (.ireturn, 1) ∧ ret = some .boolean
  | 3 => decode cc pc = .ok (.ireturn, 1) ∧ ret = some .char
  | 4 => decode cc pc = .ok (.ireturn, 1) ∧ ret = some .byte
  | 5 => decode cc pc = .ok (.areturn, 1) ∧ ∃ rt, ret = some rt ∧ ((∃ n, rt = .object n) ∨ ∃ t, rt = .array t)
  | _ => True
/-- what the tables of a claim owe -/
def ev_Tab (l : Launch) (D : va_G) (cl : List vw_C) (A : Nat → Prop) (ex : Nat → Value) (tyOf : Nat → FieldType) (XT : State → Prop) (yOf : Nat → MethodName) (bOf : Nat → ByteArray) (nLOf : Nat → Nat) (retOf : Nat → Option FieldType) (wsOf : Nat → List Cond) (cmOf smOf : Nat → Nat) (mc : Nat → ev_E → Nat → Option (ev_I ⊕ Nat)) : Prop :=
  ∀ mid : Nat, (∃ E pc x, mc mid E pc = some x) → plainName (yOf mid).cls = true ∧ (∃ ws', wsOf mid = Cond.code (yOf mid) (bOf mid) (nLOf mid) (retOf mid) :: ws') ∧
    ∀ (d : Nat) (E : ev_E), ev_Snd l D cl A ex tyOf XT yOf wsOf cmOf smOf d E → ∀ (p : Program) (e : Env) (R : Room) (s : State) (m : MethodId) (args : Array Value) (below : List Frame) (meth : Method) (c : Code) (Q : State → Prop) (ad0 : List Nat),
      p.tables.exec = Jvm.exec → c.code = bOf mid → c.maxLocals = nLOf mid → meth.name = (yOf mid).name → s.vm.findClass (yOf mid).cls = some m.cls → (∀ w ∈ wsOf mid, w.before args s = true) → XT s → (∀ q, s.heap.size ≤ q → A q) → R = ({ frames := d + 1, cells := cmOf mid, slots := smOf mid, locals := 64 * (d + 1) } : Room) →
      (∀ pc f, mc mid E pc = some (.inl f) → ev_Sim p l e R s m args below meth c Q (nLOf mid) D cl A s.heap ex ad0 tyOf pc f) ∧ (∀ pc k, mc mid E pc = some (.inr k) → ev_stop k (bOf mid) pc (retOf mid))
theorem ev_lay_len {ad : List Nat} {ex : Nat → Value} : ∀ {as : List ev_V} {vals : List Value}, ev_kR ad ex as vals → (lg_sl vals).length = (ev_lay as).length
  | [], vals, h => by rw [show vals = [] from h]; rfl
  | v :: as, vals, ⟨w, r, h1, h2, h3⟩ => by
    have ih := ev_lay_len h3
    rw [h1]
    show (lg_sl (w :: r)).length = (cond (ev_long v) (some v :: none :: ev_lay as) (some v :: ev_lay as)).length
    have e1 : lg_sl (w :: r) = (if w.category = 2 then [Slot.val w, .second] else [Slot.val w]) ++ lg_sl r := rfl
    rw [e1, List.length_append, ih]
    cases hv : ev_long v with
    | false =>
      rw [ev_cat h2 hv]
      simp [Nat.add_comm]
    | true =>
      match v, h2, hv with
      | .inr (.inl (lo, hi)), ⟨x, h4, _⟩, _ =>
        rw [h4]
        simp only [Value.category, cond_true, List.length_cons, if_true, List.length_nil]
        omega
theorem ev_lay_at {ad : List Nat} {ex : Nat → Value} : ∀ {as : List ev_V} {vals : List Value} (i0 : Nat), ev_kR ad ex as vals → ∀ (j : Nat) (v : ev_V), (ev_lay as)[j]? = some (some v) → ∃ w, (i0 + j, w) ∈ lv_args i0 vals ∧ ev_vR ad ex v w
  | [], vals, i0, h, j, v, hj => by simp [ev_lay] at hj
  | u :: as, vals, i0, ⟨w, r, h1, h2, h3⟩, j, v, hj => by
    rw [h1]
    have hj : (cond (ev_long u) (some u :: none :: ev_lay as) (some u :: ev_lay as))[j]? = some (some v) := hj
    show ∃ x, (i0 + j, x) ∈ (i0, w) :: lv_args (if w.category = 2 then i0 + 2 else i0 + 1) r ∧ ev_vR ad ex v x
    cases hu : ev_long u with
    | false =>
      rw [hu] at hj
      rw [ev_cat h2 hu]
      match j, hj with
      | 0, hj =>
        cases hj
        exact ⟨w, List.mem_cons_self, h2⟩
      | j + 1, hj =>
        obtain ⟨x, hx, hr⟩ := ev_lay_at (i0 + 1) h3 j v (by simpa using hj)
        exact ⟨x, List.mem_cons_of_mem _ (by rw [if_neg (by decide), show i0 + (j + 1) = i0 + 1 + j by omega]; exact hx), hr⟩
    | true =>
      rw [hu] at hj
      have hc : w.category = 2 := by
        match u, h2, hu with
        | .inr (.inl (lo, hi)), ⟨x, h4, _⟩, _ => rw [h4]; rfl
      rw [hc]
      match j, hj with
      | 0, hj =>
        cases hj
        exact ⟨w, List.mem_cons_self, h2⟩
      | 1, hj => simp at hj
      | j + 2, hj =>
        obtain ⟨x, hx, hr⟩ := ev_lay_at (i0 + 2) h3 j v (by simpa using hj)
        exact ⟨x, List.mem_cons_of_mem _ (by rw [if_pos rfl, show i0 + (j + 2) = i0 + 2 + j by omega]; exact hx), hr⟩
theorem ev_ent_ok {ad : List Nat} {ex : Nat → Value} {as : List ev_V} {vals : List Value} {nL : Nat} (h : ev_kR ad ex as vals) : ev_lR ad ex (ev_ent nL as) (lv_args 0 vals) := by
  intro j v hj
  unfold ev_ent at hj
  by_cases hl : j < (ev_lay as).length
  · rw [List.getElem?_append_left hl] at hj
    obtain ⟨w, h1, h2⟩ := ev_lay_at 0 h j v hj
    rw [Nat.zero_add] at h1
    exact ⟨w, h1, h2⟩
  · rw [List.getElem?_append_right (by omega), List.getElem?_replicate] at hj
    split at hj
    · cases hj
    · cases hj
section EvG
variable {p : Program} {l : Launch} {e : Env} {R : Room} {s : State} {m : MethodId} {args : Array Value} {below : List Frame} {meth : Method} {c : Code} {Q : State → Prop} {nL : Nat} {D : va_G} {cl : List vw_C} {A : Nat → Prop} {H0 : Heap} {ex : Nat → Value} {ad0 : List Nat} {tyOf : Nat → FieldType}
variable {cc : ByteArray} {pc : Nat} {XT : State → Prop} {yOf : Nat → MethodName} {wsOf : Nat → List Cond} {cmOf smOf : Nat → Nat} {d : Nat}
theorem ev_objinit_ok (hx : p.tables.exec = Jvm.exec) (hb : c.code = cc) (hml : c.maxLocals = nL) {own : String} (ho : s.vm.findClass own = some m.cls) {idx : Nat} (hlink : (Cond.methodLink own idx Lib.objectInit).before args s = true) (hinst : (Cond.instanceMethod Lib.objectInit).before args s = true) (hcode : (Cond.code Lib.objectInit ⟨#[0xb1]⟩ 1 none).before args s = true) (hd : decode cc pc = .ok (.invokespecial idx, 3)) (hfr : 1 ≤ R.frames) (hlo : 20 ≤ R.locals) : ev_Sim p l e R s m args below meth c Q nL D cl A H0 ex ad0 tyOf pc (ev_objinit (pc + 3)) := by
  intro st pc' st' h g
  obtain ⟨stk, r⟩ := st
  match stk, h with
  | .inr (.inr (some (.inl v))) :: stk, h =>
    obtain ⟨h1, h2⟩ := ev_bt1 h
    clear h
    cases h2
    intro H locs ls lv sv ws tys hK hP hD hS hh hl hn hL hs
    obtain ⟨w, q, rfl, hw, hq⟩ := hs
    have h3 : (q.map fun v => v.category).sum ≤ 8 := by rw [ev_cats_ok hq]; exact Nat.le_of_ble_eq_true h1
    obtain ⟨a, -, rfl⟩ := hw
    · refine W.objInit hx hb ho hlink hinst hcode (g := F0 m pc ls (.ref a :: q)) rfl (by rw [hml]; exact hl.1) rfl hd hfr ?_ (g H locs ls lv q ws tys hK hP hD hS hh hl hn hL hq)
      have h4 := lv_room (m := m) (pc := pc) (ls := ls) (rest := .ref a :: q) h3
      omega
theorem ev_recv_ok {i : Nat} {r0 : vw_C} {ws : va_W} {tys : List (ClassId × FieldType)} {h : ev_Hp} {as : List ev_V} {vals : List Value} {H : Heap} (hr : ev_recv i h as = true) (hc : cl[i]? = some r0) (hK : va_K D cl tys s) (hP : va_P D cl ws H) (hh : ev_hR ad0 tyOf tys ex h ws) (hv : ev_kR (ws.map Prod.fst) ex as vals) : ∃ b As, vals = .ref b :: As ∧ ∃ cell : Cell, H[b]? = some cell ∧ cell.vm.isStatics = false ∧ s.vm.findClass r0.1 = some cell.cls := by
  match as, hr, hv with
  | .inr (.inr (some (.inl k))) :: as', hr, ⟨w, r, h1, h2, h3⟩ =>
    obtain ⟨a, e2, hwk, rfl⟩ := ev_place h2
    have hr : (match ev_tg 10 h.2 k with
      | some (.inl (i', _)) => Nat.beq i' i
      | _ => false) = true := hr
    split at hr
    · next i' fs hq =>
      have e1 : i' = i := Nat.eq_of_beq_eq_true hr
      subst e1
      obtain ⟨vs, rfl, -, -⟩ := ev_cell hh hwk hq
      exact ⟨a, r, h1, va_recv hK hP hc hwk⟩
    · cases hr
theorem ev_callV_ok {own C : String} {index mid n i cm sm maxL : Nat} {bytes : ByteArray} {ret : Option FieldType} {Ts : List Cond} {r0 : vw_C} {E : ev_E} (S : CallFix p m c cc nL s args Ts own) (hE : ev_Snd l D cl A ex tyOf XT yOf wsOf cmOf smOf d E) (hcm : cm ≤ R.cells) (hsm : sm ≤ R.slots) (hX : ev_Xok A XT) (hXs : XT s) (hA : ∀ q, s.heap.size ≤ q → A q) (hc : cl[i]? = some r0) (hC : r0.1 = C)
    (cw : CallW R s args own C index (yOf mid) bytes maxL ret (wsOf mid) ({ frames := d, cells := cmOf mid, slots := smOf mid, locals := 64 * d } : Room) (cmOf mid) (smOf mid) n) (hd : decode cc pc = .ok (.invokevirtual index, 3)) : ev_Sim p l e R s m args below meth c Q nL D cl A s.heap ex ad0 tyOf pc (ev_call (pc + 3) mid (n + 1) (cmOf mid) (smOf mid) cm sm (ev_recv i) E) := by
  refine ev_call_gen hE hcm hsm (fun H locs cells slots ls w tys h h' rv as vals rest hK hP hD hS hh hsz hv hlen hr hrest h1 h2 hM => ?_)
  obtain ⟨b, As, rfl, hcell⟩ := ev_recv_ok hr hc hK hP hh hv
  rw [hC] at hcell
  exact va_runV S hM cw ⟨ev_blind hX, hcell, ev_start hX hXs hA hK hP hD hS hh⟩ rfl (by simpa using hlen) hsz (by simp) (lv_room hrest) hd ⟨h1, h2⟩
theorem ev_callVN_ok {own C host : String} {index mid n i cm sm maxL : Nat} {bytes : ByteArray} {ret : Option FieldType} {Ts : List Cond} {r0 : vw_C} {E : ev_E} (S : CallFix p m c cc nL s args Ts own) (hE : ev_Snd l D cl A ex tyOf XT yOf wsOf cmOf smOf d E) (hcm : cm ≤ R.cells) (hsm : sm ≤ R.slots) (hX : ev_Xok A XT) (hXs : XT s) (hA : ∀ q, s.heap.size ≤ q → A q) (hc : cl[i]? = some r0) (hC : r0.1 = C)
    (cw : va_CN R s args own index (yOf mid) host bytes maxL ret (wsOf mid) ({ frames := d, cells := cmOf mid, slots := smOf mid, locals := 64 * d } : Room) (cmOf mid) (smOf mid) n ∧ (Cond.instanceMethod (yOf mid)).before args s = true ∧ (Cond.selects C (yOf mid) (yOf mid)).before args s = true) (hd : decode cc pc = .ok (.invokevirtual index, 3)) : ev_Sim p l e R s m args below meth c Q nL D cl A s.heap ex ad0 tyOf pc (ev_call (pc + 3) mid (n + 1) (cmOf mid) (smOf mid) cm sm (ev_recv i) E) := by
  refine ev_call_gen hE hcm hsm (fun H locs cells slots ls w tys h h' rv as vals rest hK hP hD hS hh hsz hv hlen hr hrest h1 h2 hM => ?_)
  obtain ⟨b, As, rfl, hcell⟩ := ev_recv_ok hr hc hK hP hh hv
  rw [hC] at hcell
  exact va_runVN S hM cw ⟨ev_blind hX, hcell, ev_start hX hXs hA hK hP hD hS hh⟩ rfl (by simpa using hlen) hsz (by simp) (lv_room hrest) hd ⟨h1, h2⟩
theorem ev_callS_ok {own : String} {index mid n cm sm maxL : Nat} {bytes : ByteArray} {ret : Option FieldType} {Ts : List Cond} {E : ev_E} (S : CallFix p m c cc nL s args Ts own) (hE : ev_Snd l D cl A ex tyOf XT yOf wsOf cmOf smOf d E) (hcm : cm ≤ R.cells) (hsm : sm ≤ R.slots) (hX : ev_Xok A XT) (hXs : XT s) (hA : ∀ q, s.heap.size ≤ q → A q)
    (cw : CallB R s args own index (yOf mid) bytes maxL ret (wsOf mid) ({ frames := d, cells := cmOf mid, slots := smOf mid, locals := 64 * d } : Room) (cmOf mid) (smOf mid) n ∧ (Cond.static (yOf mid)).before args s = true) (hd : decode cc pc = .ok (.invokestatic index, 3)) : ev_Sim p l e R s m args below meth c Q nL D cl A s.heap ex ad0 tyOf pc (ev_call (pc + 3) mid n (cmOf mid) (smOf mid) cm sm ev_rc1 E) := by
  refine ev_call_gen hE hcm hsm (fun H locs cells slots ls w tys h h' rv as vals rest hK hP hD hS hh hsz hv hlen hr hrest h1 h2 hM => ?_)
  exact va_runS S hM cw ⟨ev_blind hX, ev_start hX hXs hA hK hP hD hS hh⟩ rfl hlen hsz rfl (lv_room hrest) hd ⟨h1, h2⟩
theorem ev_callSN_ok {own host : String} {index mid n cm sm maxL : Nat} {bytes : ByteArray} {ret : Option FieldType} {Ts : List Cond} {E : ev_E} (S : CallFix p m c cc nL s args Ts own) (hE : ev_Snd l D cl A ex tyOf XT yOf wsOf cmOf smOf d E) (hcm : cm ≤ R.cells) (hsm : sm ≤ R.slots) (hX : ev_Xok A XT) (hXs : XT s) (hA : ∀ q, s.heap.size ≤ q → A q)
    (cw : va_CN R s args own index (yOf mid) host bytes maxL ret (wsOf mid) ({ frames := d, cells := cmOf mid, slots := smOf mid, locals := 64 * d } : Room) (cmOf mid) (smOf mid) n ∧ (Cond.static (yOf mid)).before args s = true ∧ True) (hd : decode cc pc = .ok (.invokestatic index, 3)) : ev_Sim p l e R s m args below meth c Q nL D cl A s.heap ex ad0 tyOf pc (ev_call (pc + 3) mid n (cmOf mid) (smOf mid) cm sm ev_rc1 E) := by
  refine ev_call_gen hE hcm hsm (fun H locs cells slots ls w tys h h' rv as vals rest hK hP hD hS hh hsz hv hlen hr hrest h1 h2 hM => ?_)
  exact va_runSN S hM cw ⟨ev_blind hX, ev_start hX hXs hA hK hP hD hS hh⟩ rfl hlen hsz rfl (lv_room hrest) hd ⟨h1, h2⟩
theorem ev_callI_ok {own : String} {index mid n i cm sm maxL : Nat} {bytes : ByteArray} {Ts : List Cond} {r0 : vw_C} {E : ev_E} (S : CallFix p m c cc nL s args Ts own) (hE : ev_Snd l D cl A ex tyOf XT yOf wsOf cmOf smOf d E) (hcm : cm ≤ R.cells) (hsm : sm ≤ R.slots) (hX : ev_Xok A XT) (hXs : XT s) (hA : ∀ q, s.heap.size ≤ q → A q) (hc : cl[i]? = some r0)
    (cw : CallB R s args own index (yOf mid) bytes maxL none (wsOf mid) ({ frames := d, cells := cmOf mid, slots := smOf mid, locals := 64 * d } : Room) (cmOf mid) (smOf mid) n ∧ (yOf mid).name = "<init>" ∧ (Cond.instanceMethod (yOf mid)).before args s = true) (hd : decode cc pc = .ok (.invokespecial index, 3)) : ev_Sim p l e R s m args below meth c Q nL D cl A s.heap ex ad0 tyOf pc (ev_call (pc + 3) mid (n + 1) (cmOf mid) (smOf mid) cm sm (ev_recv i) E) := by
  refine ev_call_gen hE hcm hsm (fun H locs cells slots ls w tys h h' rv as vals rest hK hP hD hS hh hsz hv hlen hr hrest h1 h2 hM => ?_)
  obtain ⟨b, As, rfl, hcell⟩ := ev_recv_ok hr hc hK hP hh hv
  exact va_runI S hM cw ⟨ev_blind hX, ev_start hX hXs hA hK hP hD hS hh⟩ rfl (by simpa using hlen) hsz (by simp) (lv_room hrest) hd ⟨h1, h2⟩
theorem ev_callIN_ok {own host : String} {index mid n i cm sm maxL : Nat} {bytes : ByteArray} {Ts : List Cond} {r0 : vw_C} {E : ev_E} (S : CallFix p m c cc nL s args Ts own) (hE : ev_Snd l D cl A ex tyOf XT yOf wsOf cmOf smOf d E) (hcm : cm ≤ R.cells) (hsm : sm ≤ R.slots) (hX : ev_Xok A XT) (hXs : XT s) (hA : ∀ q, s.heap.size ≤ q → A q) (hc : cl[i]? = some r0)
    (cw : va_CN R s args own index (yOf mid) host bytes maxL none (wsOf mid) ({ frames := d, cells := cmOf mid, slots := smOf mid, locals := 64 * d } : Room) (cmOf mid) (smOf mid) n ∧ (yOf mid).name = "<init>" ∧ (Cond.instanceMethod (yOf mid)).before args s = true) (hd : decode cc pc = .ok (.invokespecial index, 3)) : ev_Sim p l e R s m args below meth c Q nL D cl A s.heap ex ad0 tyOf pc (ev_call (pc + 3) mid (n + 1) (cmOf mid) (smOf mid) cm sm (ev_recv i) E) := by
  refine ev_call_gen hE hcm hsm (fun H locs cells slots ls w tys h h' rv as vals rest hK hP hD hS hh hsz hv hlen hr hrest h1 h2 hM => ?_)
  obtain ⟨b, As, rfl, hcell⟩ := ev_recv_ok hr hc hK hP hh hv
  exact va_runIN S hM cw ⟨ev_blind hX, ev_start hX hXs hA hK hP hD hS hh⟩ rfl (by simpa using hlen) hsz (by simp) (lv_room hrest) hd ⟨h1, h2⟩
end EvG
/-- a method's end -/
theorem ev_end {l : Launch} {p : Program} {e : Env} {R : Room} {s : State} {m : MethodId} {args : Array Value} {below : List Frame} {meth : Method} {c : Code} {nL : Nat} {D : va_G} {cl : List vw_C} {A : Nat → Prop} {ex : Nat → Value} {tyOf : Nat → FieldType} {cc : ByteArray} {ret : Option FieldType} {ad : List Nat} {mc ms k pc : Nat} {rv : Option ev_V} {h' : ev_Hp} {stk : List ev_V} {L : List (Option ev_V)} {c1 n1 : Nat}
    (hx : p.tables.exec = Jvm.exec) (hb : c.code = cc) (hr : meth.sig.returnType = ret) (hlocks : meth.locks = false) (hst : ev_stop k cc pc ret) (ho : ev_out k stk h' = some (rv, h')) (h1 : c1 ≤ mc) (h2 : n1 ≤ ms) :
    ev_G p l e R s m args below meth c (MQ below (ev_Qo D cl A ex tyOf ad rv h') args s mc ms A) nL D cl A s.heap ex ad tyOf pc (stk, L, h', (c1, n1)) := by
  intro H locs ls lv sv ws tys hK hP hD hS hh hl hn hL hs
  refine W.widen (k := mc) (n := ms) h1 h2 ?_
  have post : ∀ (ov : Option Value) (t : State), ev_oR (ws.map Prod.fst) ex rv ov → t.heap = H → s.WarmedH t.vm → ev_Qo D cl A ex tyOf ad rv h' args s (.returned ov) t := fun ov t hov ht hW => ⟨⟨ov, ws, tys, rfl, hov, by rw [ht]; exact hP, va_K.moved hW.alike hK, hD, hh⟩, hS.F ht⟩
  match k, stk, hst, ho, hs with
  | 0, [], ⟨hd, hret⟩, ho, hs =>
    cases ho
    rw [show sv = [] from hs]
    exact W.vret hx hb (hr.trans hret) (fun t ht hW => post none t rfl ht hW) hS.2.2 hd hlocks
  | 1, [.inl v], ⟨hd, hret⟩, ho, ⟨w, r, e1, ⟨x, e2, hx1⟩, e3⟩ =>
    cases ho
    rw [e1, e2, show r = [] from e3]
    exact W.iret hx hb (hr.trans hret) (fun t ht hW => post (some (.int x)) t ⟨_, rfl, ⟨x, rfl, hx1⟩⟩ ht hW) hS.2.2 hd hlocks
  | 2, [.inl (lo, hi)], ⟨hd, hret⟩, ho, ⟨w, r, e1, ⟨x, e2, hx1, hx2⟩, e3⟩ =>
    obtain ⟨a1, a2, ho2⟩ := ev_bt ho
    rw [decide_eq_true_eq] at a1 a2
    cases ho2
    rw [e1, e2, show r = [] from e3]
    have hn9 := (ev_fit_ok (ad := ws.map Prod.fst) (ex := ex) (ty := .boolean) (v := .inl (lo, hi)) (w := .int x) (by show (decide (0 ≤ lo) && decide (hi ≤ 1)) = true; rw [decide_eq_true a1, decide_eq_true a2]; rfl) ⟨x, rfl, hx1, hx2⟩).1
    exact W.zret hx hb (hr.trans hret) hn9 (fun t ht hW => post (some (.int x)) t ⟨_, rfl, ⟨x, rfl, hx1, hx2⟩⟩ ht hW) hS.2.2 hd hlocks
  | 3, [.inl (lo, hi)], ⟨hd, hret⟩, ho, ⟨w, r, e1, ⟨x, e2, hx1, hx2⟩, e3⟩ =>
    obtain ⟨a1, a2, ho2⟩ := ev_bt ho
    rw [decide_eq_true_eq] at a1 a2
    cases ho2
    rw [e1, e2, show r = [] from e3]
    obtain ⟨q, hq, rfl⟩ : ∃ q : Nat, q < 65536 ∧ x = nI q := by
      refine ⟨x.toInt.toNat, by omega, Int32.toInt_inj.mp ?_⟩
      rw [nI_toInt (by omega)]
      omega
    exact W.zret hx hb (hr.trans hret) (pk_charN hq).1 (fun t ht hW => post (some (.int (nI q))) t ⟨_, rfl, ⟨nI q, rfl, hx1, hx2⟩⟩ ht hW) hS.2.2 hd hlocks
  | 4, [.inl (lo, hi)], ⟨hd, hret⟩, ho, ⟨w, r, e1, ⟨x, e2, hx1, hx2⟩, e3⟩ =>
    obtain ⟨a1, a2, ho2⟩ := ev_bt ho
    rw [decide_eq_true_eq] at a1 a2
    cases ho2
    rw [e1, e2, show r = [] from e3]
    have hb9 : x.toInt8.toInt32 = x := by
      apply Int32.toInt_inj.mp
      rw [ev_b8_ok]
      unfold ev_b8
      rw [Int.bmod_def]
      split <;> omega
    have hn9 : narrow .byte (.int x) = .int x := by
      have h9 := pk_nb x
      rw [hb9] at h9
      exact h9
    exact W.zret hx hb (hr.trans hret) hn9 (fun t ht hW => post (some (.int x)) t ⟨_, rfl, ⟨x, rfl, hx1, hx2⟩⟩ ht hW) hS.2.2 hd hlocks
  | 5, [.inr (.inr v)], ⟨hd, rt, hret, hrt⟩, ho, ⟨w, r, e1, e2, e3⟩ =>
    cases ho
    rw [e1, show r = [] from e3]
    have hv9 : w = .null ∨ ∃ a, w = .ref a := by
      rcases ev_rf e2 with ⟨q, -⟩ | ⟨a, q, -⟩
      · exact Or.inl q
      · exact Or.inr ⟨a, q⟩
    exact W.aret hx hb (hr.trans hret) hrt hv9 (fun t ht hW => post (some w) t ⟨_, rfl, e2⟩ ht hW) hS.2.2 hd hlocks
theorem ev_out_h {k : Nat} {stk : List ev_V} {h1 h2 : ev_Hp} {rv : Option ev_V} (h : ev_out k stk h1 = some (rv, h2)) : h2 = h1 := by
  match k, stk, h with
  | 0, [], h => cases h; rfl
  | 1, [.inl v], h => cases h; rfl
  | 2, [.inl (lo, hi)], h =>
    obtain ⟨a1, a2, h9⟩ := ev_bt h
    cases h9
    rfl
  | 3, [.inl (lo, hi)], h =>
    obtain ⟨a1, a2, h9⟩ := ev_bt h
    cases h9
    rfl
  | 4, [.inl (lo, hi)], h =>
    obtain ⟨a1, a2, h9⟩ := ev_bt h
    cases h9
    rfl
  | 5, [.inr (.inr v)], h => cases h; rfl
/-- EVERY RUN OF THE EVALUATOR IS A RUN OF THE MACHINE -/
theorem ev_M_ok {l : Launch} {D : va_G} {cl : List vw_C} {A : Nat → Prop} {ex : Nat → Value} {tyOf : Nat → FieldType} {XT : State → Prop} {yOf : Nat → MethodName} {bOf : Nat → ByteArray} {nLOf : Nat → Nat} {retOf : Nat → Option FieldType} {wsOf : Nat → List Cond} {cmOf smOf : Nat → Nat} {mc : Nat → ev_E → Nat → Option (ev_I ⊕ Nat)} {fuel : Nat} (hT : ev_Tab l D cl A ex tyOf XT yOf bOf nLOf retOf wsOf cmOf smOf mc) :
    ∀ d : Nat, ev_Snd l D cl A ex tyOf XT yOf wsOf cmOf smOf d (ev_M mc nLOf cmOf smOf fuel d)
  | 0 => fun mid as h rv h' hE => by cases hE
  | d + 1 => by
    intro mid as h rv h' hE w tys vals hv
    have ih := ev_M_ok hT (fuel := fuel) d
    simp only [ev_M] at hE
    split at hE
    · next k pc1 stk L h1 c1 n1 hrun =>
      obtain ⟨a1, hE9⟩ := ev_bt1 hE
      clear hE
      rw [Bool.and_eq_true, Bool.and_eq_true] at a1
      obtain ⟨a1, a2, a3⟩ := a1
      have eh := ev_out_h hE9
      subst eh
      have hlay : (ev_lay as).length ≤ nLOf mid := Nat.le_of_ble_eq_true a1
      have hex : ∃ E pc x, mc mid E pc = some x := by
        cases fuel with
        | zero => cases hrun
        | succ f =>
          simp only [ev_run] at hrun
          split at hrun
          · next g hg => exact ⟨_, _, _, hg⟩
          · next g hg => exact ⟨_, _, _, hg⟩
          · cases hrun
      obtain ⟨hpl, ⟨ws', hws⟩, htab⟩ := hT mid hex
      refine Met.ofW (cc := bOf mid) (maxL := nLOf mid) (ret := retOf mid) hpl hws ?_
      intro p e s m args below meth c s₁ B hml hv0
      obtain ⟨rfl, hP, hK, hD, hA, hh, hXs⟩ := hv0
      have hts := atoms_spec (ws := wsOf mid) B.pre
      have hown : s.vm.findClass (yOf mid).cls = some m.cls := findClass_of_methodNamed B.named
      have hname : meth.name = (yOf mid).name := (name_of_methodNamed B.named B.method).1
      obtain ⟨hsim, hstop⟩ := htab d _ ih p e _ s m vals.toArray below meth c (MQ below (ev_Qo D cl A ex tyOf (w.map Prod.fst) rv h') vals.toArray s (cmOf mid) (smOf mid) A) (w.map Prod.fst) B.exec B.bytes hml hname hown hts hXs hA rfl
      obtain ⟨hk, hgo⟩ := ev_run_ok (code := mc mid (ev_M mc nLOf cmOf smOf fuel d)) hsim fuel 0 _ k pc1 _ hrun
      have hend := ev_end (l := l) (p := p) (e := e) (R := ({ frames := d + 1, cells := cmOf mid, slots := smOf mid, locals := 64 * (d + 1) } : Room)) (s := s) (m := m) (args := vals.toArray) (below := below) (meth := meth) (c := c) (nL := nLOf mid) (D := D) (cl := cl) (A := A) (ex := ex) (tyOf := tyOf) (ad := w.map Prod.fst) (L := L) B.exec B.bytes B.returns B.notSynchronized (hstop pc1 k hk) hE9 (Nat.le_of_ble_eq_true a2) (Nat.le_of_ble_eq_true a3)
      have g0 := hgo hend
      have hl := lv_entry vals (n := nLOf mid) (by rw [ev_lay_len hv]; exact hlay)
      rw [lg_entry_eq]
      exact g0 s.heap [] _ _ [] w tys hK hP hD va_S.rf ⟨hh.1, hh.2.1, fun _ _ z => z, hh.2.2.2⟩ hl (by unfold ev_ent; rw [List.length_append, List.length_replicate]; omega) (ev_ent_ok hv) rfl
    · cases hE
end
section
/-! THINGS OUTSIDE OF THE WORLD; comparisons of references; switches. -/
def ev_getx (n : Nat) (tb : Nat → Option ev_V) : ev_I := fun st => match st with
  | (.inr (.inr (some (.inr j))) :: stk, r) => match tb j with
    | some v => some (n, (v :: stk, r))
    | none => none
  | _ => none
def ev_alenx (n : Nat) (tb : Nat → Option Nat) : ev_I := fun st => match st with
  | (.inr (.inr (some (.inr j))) :: stk, r) => match tb j with
    | some len => some (n, (.inl (.ofNat len, .ofNat len) :: stk, r))
    | none => none
  | _ => none
def ev_aldx (n : Nat) (tb : Nat → Nat → Option Int) : ev_I := fun st => match st with
  | (.inl (.ofNat i1, i2) :: .inr (.inr (some (.inr j))) :: stk, r) => match tb j i1 with
    | some z => cond (decide (Int.ofNat i1 = i2)) (some (n, (.inl (z, z) :: stk, r))) none
    | none => none
  | _ => none
def ev_acmp (b : Bool) (n t : Nat) : ev_I := fun st => match st with
  | (.inr (.inr none) :: .inr (.inr none) :: stk, r) => some (cond b t n, (stk, r))
  | (.inr (.inr (some (.inl _))) :: .inr (.inr none) :: stk, r) => some (cond b n t, (stk, r))
  | (.inr (.inr none) :: .inr (.inr (some (.inl _))) :: stk, r) => some (cond b n t, (stk, r))
  | (.inr (.inr (some (.inl j))) :: .inr (.inr (some (.inl k))) :: stk, r) => some (cond (Nat.beq j k) (cond b t n) (cond b n t), (stk, r))
  | _ => none
/-- a known int chooses -/
def ev_tsw (lo : Int) (ts : List Nat) (dflt : Nat) : ev_I := fun st => match st with
  | (.inl (a1, a2) :: stk, r) => cond (decide (a1 = a2)) (match a1 - lo with
    | .ofNat i => (match ev_lg ts i with
      | some t => some (t, (stk, r))
      | none => some (dflt, (stk, r)))
    | .negSucc _ => some (dflt, (stk, r))) none
  | _ => none
def ev_lsf (z : Int) (dflt : Nat) : List (Int × Nat) → Nat
  | [] => dflt
  | (k, t) :: l => cond (decide (z = k)) t (ev_lsf z dflt l)
def ev_lsw (ps : List (Int × Nat)) (dflt : Nat) : ev_I := fun st => match st with
  | (.inl (a1, a2) :: stk, r) => cond (decide (a1 = a2)) (ev_fN (ev_lsf a1 dflt ps) (fun t => some (t, (stk, r)))) none
  | _ => none
/-- an array of arrays: an array of the kind ta, or null, to it -/
def ev_asta (n tc ta : Nat) : ev_I := fun st => match st with
  | (.inr (.inr v) :: .inl (.ofNat i1, i2) :: .inr (.inr (some (.inl k))) :: stk, L, h, r) => match ev_tg 10 h.2 k with
    | some (.inr (tc', len, els)) => cond (decide (Int.ofNat i1 = i2) && (Nat.beq tc' tc && (match v with
        | some (.inl j) => (match ev_tg 10 h.2 j with
          | some (.inr (ta', _, _)) => Nat.beq ta' ta
          | _ => false)
        | _ => false))) (ev_ls els i1 (.inr (.inr v)) (fun els' => ev_ts 10 h.2 k (some (.inr (tc', len, els'))) (fun t' => some (n, (stk, L, (h.1, t'), r)))) none) none
    | _ => none
  | _ => none
/-- a method's code in rows of sixteen -/
def ev_code (t : List (List (Option (ev_I ⊕ Nat)))) (pc : Nat) : Option (ev_I ⊕ Nat) := match ev_lg t (pc / 16) with
  | some r => (match ev_lg r (pc % 16) with
    | some x => x
    | none => none)
  | none => none
def ev_oi (f : ev_I) : Option (ev_I ⊕ Nat) := some (.inl f)
def ev_os (k : Nat) : Option (ev_I ⊕ Nat) := some (.inr k)
def ev_no : Option (ev_I ⊕ Nat) := none
def ev_shr0 (n : Nat) : ev_I := fun st => match st with
  | (.inl (b1, b2) :: .inl a :: stk, r) => cond (decide (b1 = 0) && decide (b2 = 0)) (some (n, (.inl a :: stk, r))) none
  | _ => none
end
section
/-! THINGS OUTSIDE: their rows; literals; comparisons of references; switches. -/
section EvH
variable {p : Program} {l : Launch} {e : Env} {R : Room} {s : State} {m : MethodId} {args : Array Value} {below : List Frame} {meth : Method} {c : Code} {Q : State → Prop} {nL : Nat} {D : va_G} {cl : List vw_C} {A : Nat → Prop} {H0 : Heap} {ex : Nat → Value} {ad0 : List Nat} {tyOf : Nat → FieldType}
variable {cc : ByteArray} {pc : Nat} {XT : State → Prop} {yOf : Nat → MethodName} {wsOf : Nat → List Cond} {cmOf smOf : Nat → Nat} {d : Nat}
/-- int constant by a wide index -/
theorem ev_ldcw_ok (hx : p.tables.exec = Jvm.exec) (hb : c.code = cc) {own : String} {index : Nat} {z : Int} {x : Int32} (ho : s.vm.findClass own = some m.cls) (hc : (Jvm.Cond.constant own index x).before args s = true) (hd : decode cc pc = .ok (.ldc_w index, 3)) (hz : x.toInt = z) : ev_Sim p l e R s m args below meth c Q nL D cl A H0 ex ad0 tyOf pc (ev_push (pc + 3) (ev_int z)) := by
  intro st pc' st' h g
  obtain ⟨stk, r⟩ := st
  cases h
  intro H locs ls lv sv ws tys hK hP hD hS hh hl hn hL hs
  exact lv_ldcw hx hb ho hc hd (g H locs ls lv (.int x :: sv) ws tys hK hP hD hS hh hl hn hL ⟨_, _, rfl, ⟨x, rfl, by rw [hz]; exact Int.le_refl _, by rw [hz]; exact Int.le_refl _⟩, hs⟩)
/-- a literal -/
theorem ev_ldcs_ok (hx : p.tables.exec = Jvm.exec) (hb : c.code = cc) {own tx : String} {index q j : Nat} (ho : s.vm.findClass own = some m.cls) (hZ : vk_R own index tx q s) (hj : ex j = .ref q) (hd : decode cc pc = .ok (.ldc index, 2)) : ev_Sim p l e R s m args below meth c Q nL D cl A H0 ex ad0 tyOf pc (ev_push (pc + 2) (ev_ext j)) := by
  intro st pc' st' h g
  obtain ⟨stk, r⟩ := st
  cases h
  intro H locs ls lv sv ws tys hK hP hD hS hh hl hn hL hs
  exact va_ldcS hx hb ho hZ hd (g H locs ls lv (.ref q :: sv) ws tys hK hP hD hS hh hl hn hL ⟨_, _, rfl, ⟨hj.symm, Or.inr ⟨q, rfl⟩⟩, hs⟩)
/-- a static field that nobody writes -/
theorem ev_gets_ok (hx : p.tables.exec = Jvm.exec) (hb : c.code = cc) {C n dd own ref : String} {v : Value} {u : ev_V} {index : Nat} (hZ : va_Z C n dd v A s s.heap) (ho : s.vm.findClass own = some m.cls) (hlink : (Cond.fieldLink own index ref n dd).before args s = true) (hsame : ∀ x, s.fieldFound? C n dd = some x → s.fieldFound? ref n dd = some x) (hu : ∀ ad : List Nat, ev_vR ad ex u v) (hd : decode cc pc = .ok (.getstatic index, 3)) : ev_Sim p l e R s m args below meth c Q nL D cl A s.heap ex ad0 tyOf pc (ev_push (pc + 3) u) := by
  intro st pc' st' h g
  obtain ⟨stk, r⟩ := st
  cases h
  intro H locs ls lv sv ws tys hK hP hD hS hh hl hn hL hs
  exact va_gets hx hb hZ hS ho hlink hsame hd (g H locs ls lv (v :: sv) ws tys hK hP hD hS hh hl hn hL ⟨_, _, rfl, hu _, hs⟩)
/-- a field of a thing outside -/
theorem ev_getx_ok (hx : p.tables.exec = Jvm.exec) (hb : c.code = cc) {o n dd own ref : String} {index : Nat} {tb : Nat → Option ev_V} (htb : ∀ (j : Nat) (u : ev_V), tb j = some u → ∀ q : Nat, ex j = .ref q → ∃ v, va_OF o n dd v q A s s.heap ∧ ∀ ad : List Nat, ev_vR ad ex u v) (hnn : ∀ (j : Nat) (u : ev_V), tb j = some u → ¬ ex j = .null) (ho : s.vm.findClass own = some m.cls) (hlink : (Cond.fieldLink own index ref n dd).before args s = true) (hsame : ∀ x, s.fieldFound? o n dd = some x → s.fieldFound? ref n dd = some x) (hd : decode cc pc = .ok (.getfield index, 3)) : ev_Sim p l e R s m args below meth c Q nL D cl A s.heap ex ad0 tyOf pc (ev_getx (pc + 3) tb) := by
  intro st pc' st' h g
  obtain ⟨stk, r⟩ := st
  match stk, h with
  | .inr (.inr (some (.inr j))) :: stk, h =>
    simp only [ev_getx] at h
    split at h
    · next u hu =>
      cases h
      intro H locs ls lv sv ws tys hK hP hD hS hh hl hn hL hs
      obtain ⟨w, q, rfl, ⟨hw, hw2⟩, hq⟩ := hs
      rcases hw2 with rfl | ⟨a, rfl⟩
      · exact absurd hw.symm (hnn j u hu)
      · obtain ⟨v, hv, hr⟩ := htb j u hu a hw.symm
        exact vk_getf hx hb hv hS ho hlink hsame hd (g H locs ls lv (v :: q) ws tys hK hP hD hS hh hl hn hL ⟨_, _, rfl, hr _, hq⟩)
    · cases h
theorem ev_alenx_ok (hx : p.tables.exec = Jvm.exec) (hb : c.code = cc) {ty : FieldType} {tb : Nat → Option Nat} (htb : ∀ j len : Nat, tb j = some len → len < 2147483648 ∧ ∃ q : Nat, ex j = .ref q ∧ ∃ f, va_T ty q len f A s s.heap) (hd : decode cc pc = .ok (.arraylength, 1)) : ev_Sim p l e R s m args below meth c Q nL D cl A s.heap ex ad0 tyOf pc (ev_alenx (pc + 1) tb) := by
  intro st pc' st' h g
  obtain ⟨stk, r⟩ := st
  match stk, h with
  | .inr (.inr (some (.inr j))) :: stk, h =>
    simp only [ev_alenx] at h
    split at h
    · next len hu =>
      cases h
      intro H locs ls lv sv ws tys hK hP hD hS hh hl hn hL hs
      obtain ⟨w, q, rfl, ⟨hw, -⟩, hq⟩ := hs
      obtain ⟨hlt, a, ha, f, hT⟩ := htb j len hu
      rw [hw, ha]
      have e9 : (Int32.ofNat len).toInt = Int.ofNat len := nI_toInt hlt
      exact va_tlen hx hb hT hS rfl hd (g H locs ls lv (.int (Int32.ofNat len) :: q) ws tys hK hP hD hS hh hl hn hL ⟨_, _, rfl, ⟨_, rfl, by rw [e9]; exact Int.le_refl _, by rw [e9]; exact Int.le_refl _⟩, hq⟩)
    · cases h
theorem ev_aldx_ok (hx : p.tables.exec = Jvm.exec) (hb : c.code = cc) {tb : Nat → Nat → Option Int} (htb : ∀ (j i : Nat) (z : Int), tb j i = some z → ∃ q : Nat, ex j = .ref q ∧ ∃ N f, va_T .byte q N f A s s.heap ∧ i < N ∧ ∃ x : Int32, f i = .int x ∧ x.toInt = z) (hd : decode cc pc = .ok (.baload, 1)) : ev_Sim p l e R s m args below meth c Q nL D cl A s.heap ex ad0 tyOf pc (ev_aldx (pc + 1) tb) := by
  intro st pc' st' h g
  obtain ⟨stk, r⟩ := st
  match stk, h with
  | .inl (.ofNat i1, i2) :: .inr (.inr (some (.inr j))) :: stk, h =>
    simp only [ev_aldx] at h
    split at h
    · next z hu =>
      obtain ⟨a1, h9⟩ := ev_bt1 h
      clear h
      rw [decide_eq_true_eq] at a1
      subst a1
      cases h9
      intro H locs ls lv sv ws tys hK hP hD hS hh hl hn hL hs
      obtain ⟨w, r1, rfl, ⟨y, rfl, hy1, hy2⟩, w2, q, rfl, ⟨hw, -⟩, hq⟩ := hs
      obtain ⟨a, ha, N, f, hT, hi, x, hf, hz⟩ := htb j i1 z hu
      obtain ⟨f1, f2⟩ := ev_ix hy1 hy2
      rw [hw, ha]
      refine va_tb hx hb hT hS (f2 N hi) (v := .int x) (by rw [f1]; exact hf) hd (g H locs ls lv (.int x :: q) ws tys hK hP hD hS hh hl hn hL ⟨_, _, rfl, ⟨x, rfl, by rw [hz]; exact Int.le_refl _, by rw [hz]; exact Int.le_refl _⟩, hq⟩)
    · cases h
/-- references of the world are one where their places are -/
theorem ev_same {ws : va_W} {i j a b : Nat} {e1 e2 : va_E} (hD : va_D A ws) (hi : ws[i]? = some (a, e1)) (hj : ws[j]? = some (b, e2)) : a = b ↔ i = j :=
  ⟨fun q => hD.1 i j _ _ hi hj q, fun q => by subst q; rw [hi] at hj; cases hj; rfl⟩
theorem ev_acmp_gen {bb : Bool} {n t : Nat} (row : ∀ (H : Heap) (locs : List Loc) (cells slots : Nat) (ls : Array Slot) (rest : List Value) (rx ry : Option Nat), (rx = ry → W p l e R s m args below meth c H locs cells slots Q (F0 m (cond bb t n) ls rest)) → (¬ rx = ry → W p l e R s m args below meth c H locs cells slots Q (F0 m (cond bb n t) ls rest)) → W p l e R s m args below meth c H locs cells slots Q (F0 m pc ls (va_rf ry :: va_rf rx :: rest))) : ev_Sim p l e R s m args below meth c Q nL D cl A H0 ex ad0 tyOf pc (ev_acmp bb n t) := by
  intro st pc' st' h g
  obtain ⟨stk, r⟩ := st
  match stk, h with
  | .inr (.inr none) :: .inr (.inr none) :: stk, h =>
    cases h
    intro H locs ls lv sv ws tys hK hP hD hS hh hl hn hL hs
    obtain ⟨w, r1, rfl, hw, w2, q, rfl, hw2, hq⟩ := hs
    rw [show w = va_rf none from hw, show w2 = va_rf none from hw2]
    exact row H locs _ _ ls q none none (fun _ => g H locs ls lv q ws tys hK hP hD hS hh hl hn hL hq) (fun z => absurd rfl z)
  | .inr (.inr (some (.inl j))) :: .inr (.inr none) :: stk, h =>
    cases h
    intro H locs ls lv sv ws tys hK hP hD hS hh hl hn hL hs
    obtain ⟨w, r1, rfl, hw, w2, q, rfl, hw2, hq⟩ := hs
    obtain ⟨a, -, rfl⟩ := hw
    rw [show w2 = va_rf none from hw2]
    exact row H locs _ _ ls q none (some a) (fun z => nomatch z) (fun _ => g H locs ls lv q ws tys hK hP hD hS hh hl hn hL hq)
  | .inr (.inr none) :: .inr (.inr (some (.inl j))) :: stk, h =>
    cases h
    intro H locs ls lv sv ws tys hK hP hD hS hh hl hn hL hs
    obtain ⟨w, r1, rfl, hw, w2, q, rfl, hw2, hq⟩ := hs
    obtain ⟨a, -, rfl⟩ := hw2
    rw [show w = va_rf none from hw]
    exact row H locs _ _ ls q (some a) none (fun z => nomatch z) (fun _ => g H locs ls lv q ws tys hK hP hD hS hh hl hn hL hq)
  | .inr (.inr (some (.inl j))) :: .inr (.inr (some (.inl k))) :: stk, h =>
    cases h
    intro H locs ls lv sv ws tys hK hP hD hS hh hl hn hL hs
    obtain ⟨w, r1, rfl, hw, w2, q, rfl, hw2, hq⟩ := hs
    obtain ⟨a, e1, hj, rfl⟩ := ev_place hw
    obtain ⟨b, e2, hk, rfl⟩ := ev_place hw2
    have hab := ev_same hD hk hj
    refine row H locs _ _ ls q (some b) (some a) (fun z => ?_) (fun z => ?_)
    · have hjk : Nat.beq j k = true := by rw [(hab.mp (Option.some.inj z)).symm]; exact Nat.beq_refl _
      have g2 := g H locs ls lv q ws tys hK hP hD hS hh hl hn hL hq
      rw [hjk] at g2
      exact g2
    · have hjk : Nat.beq j k = false := by
        cases hb9 : Nat.beq j k with
        | false => rfl
        | true => exact absurd (congrArg some (hab.mpr (Nat.eq_of_beq_eq_true hb9).symm)) z
      have g2 := g H locs ls lv q ws tys hK hP hD hS hh hl hn hL hq
      rw [hjk] at g2
      exact g2
theorem ev_acmp_eq_ok (hx : p.tables.exec = Jvm.exec) (hb : c.code = cc) {off : Int} {t : Nat} (hd : decode cc pc = .ok (.if_acmp .eq off, 3)) (ht : (pc : Int) + off = (t : Int)) : ev_Sim p l e R s m args below meth c Q nL D cl A H0 ex ad0 tyOf pc (ev_acmp true (pc + 3) t) :=
  ev_acmp_gen (fun _ _ _ _ _ _ _ _ kt kf => lv_acmp_eq hx hb hd ht kt kf)
theorem ev_acmp_ne_ok (hx : p.tables.exec = Jvm.exec) (hb : c.code = cc) {off : Int} {t : Nat} (hd : decode cc pc = .ok (.if_acmp .ne off, 3)) (ht : (pc : Int) + off = (t : Int)) : ev_Sim p l e R s m args below meth c Q nL D cl A H0 ex ad0 tyOf pc (ev_acmp false (pc + 3) t) :=
  ev_acmp_gen (fun _ _ _ _ _ _ _ _ kt kf => lv_acmp_ne hx hb hd ht kf kt)
/-- a call on a thing outside -/
theorem ev_callVx_ok {own C : String} {index mid n cm sm maxL : Nat} {bytes : ByteArray} {ret : Option FieldType} {Ts : List Cond} {E : ev_E} {rc : ev_Hp → List ev_V → Bool} (S : CallFix p m c cc nL s args Ts own) (hE : ev_Snd l D cl A ex tyOf XT yOf wsOf cmOf smOf d E) (hcm : cm ≤ R.cells) (hsm : sm ≤ R.slots) (hX : ev_Xok A XT) (hXs : XT s) (hA : ∀ q, s.heap.size ≤ q → A q)
    (hrc : ∀ (h : ev_Hp) (as : List ev_V), rc h as = true → ∃ j as', as = .inr (.inr (some (.inr j))) :: as' ∧ ∃ b, ex j = .ref b ∧ ∀ (H : Heap) (locs : List Loc), va_S A s.heap H locs → ∃ cell : Cell, H[b]? = some cell ∧ cell.vm.isStatics = false ∧ s.vm.findClass C = some cell.cls)
    (cw : CallW R s args own C index (yOf mid) bytes maxL ret (wsOf mid) ({ frames := d, cells := cmOf mid, slots := smOf mid, locals := 64 * d } : Room) (cmOf mid) (smOf mid) n) (hd : decode cc pc = .ok (.invokevirtual index, 3)) : ev_Sim p l e R s m args below meth c Q nL D cl A s.heap ex ad0 tyOf pc (ev_call (pc + 3) mid (n + 1) (cmOf mid) (smOf mid) cm sm rc E) := by
  refine ev_call_gen hE hcm hsm (fun H locs cells slots ls w tys h h' rv as vals rest hK hP hD hS hh hsz hv hlen hr hrest h1 h2 hM => ?_)
  obtain ⟨j, as', rfl, b, hj, hcell⟩ := hrc h as hr
  obtain ⟨w0, r0, rfl, ⟨hw, -⟩, hv2⟩ := hv
  rw [hj] at hw
  subst hw
  exact va_runV S hM cw ⟨ev_blind hX, hcell H locs hS, ev_start hX hXs hA hK hP hD hS hh⟩ rfl (by simpa using hlen) hsz (by simp) (lv_room hrest) hd ⟨h1, h2⟩
/-- a number shifted by 0 -/
theorem ev_shr0_ok {n : Nat} (hx : p.tables.exec = Jvm.exec) (hb : c.code = cc) (hd : decode cc pc = .ok (.ishr, 1)) : ev_Sim p l e R s m args below meth c Q nL D cl A H0 ex ad0 tyOf pc (ev_shr0 (pc + 1)) := by
  intro st pc' st' h g
  obtain ⟨stk, r⟩ := st
  match stk, h with
  | .inl (b1, b2) :: .inl (a1, a2) :: stk, h =>
    simp only [ev_shr0] at h
    obtain ⟨q1, q2, h9⟩ := ev_bt h
    clear h
    rw [decide_eq_true_eq] at q1 q2
    cases h9
    intro H locs ls lv sv ws tys hK hP hD hS hh hl hn hL hs
    obtain ⟨w, r1, rfl, ⟨y, rfl, hy1, hy2⟩, w2, r2, rfl, ⟨x, rfl, hx1, hx2⟩, hs⟩ := hs
    have ey : y = 0 := Int32.toInt_inj.mp (show y.toInt = 0 by omega)
    subst ey
    have e9 : x >>> ((0 : Int32) &&& 31) = x := by simp
    refine lv_ishr hx hb hd ?_
    rw [e9]
    exact g H locs ls lv (.int x :: r2) ws tys hK hP hD hS hh hl hn hL ⟨_, _, rfl, ⟨x, rfl, hx1, hx2⟩, hs⟩
/-- tableswitch: the places by number, and the default -/
theorem ev_tsw_ok (hx : p.tables.exec = Jvm.exec) (hb : c.code = cc) {dflt lo hi : Int} {offs : Array Int} {len dt : Nat} {ts : List Nat} (hd : decode cc pc = .ok (.tableswitch dflt lo hi offs, len)) (hdt : (pc : Int) + dflt = (dt : Int)) (hn9 : (ts.length : Int) = hi - lo + 1) (hts : ∀ i t : Nat, ts[i]? = some t → ∃ off, offs[i]? = some off ∧ (pc : Int) + off = (t : Int)) : ev_Sim p l e R s m args below meth c Q nL D cl A H0 ex ad0 tyOf pc (ev_tsw lo ts dt) := by
  intro st pc' st' h g
  obtain ⟨stk, r⟩ := st
  match stk, h with
  | .inl (a1, a2) :: stk, h =>
    simp only [ev_tsw, ev_lg_eq] at h
    obtain ⟨q1, h9⟩ := ev_bt1 h
    clear h
    rw [decide_eq_true_eq] at q1
    subst q1
    intro H locs ls lv sv ws tys hK hP hD hS hh hl hn hL hs
    obtain ⟨w2, r2, rfl, ⟨x, rfl, hx1, hx2⟩, hs⟩ := hs
    have ex9 : x.toInt = a1 := Int.le_antisymm hx2 hx1
    split at h9
    · next i hi =>
      split at h9
      · next t ht =>
        cases h9
        obtain ⟨off, ho, hoff⟩ := hts i pc' ht
        have hlt : i < ts.length := (List.getElem?_eq_some_iff.mp ht).1
        have hi2 : a1 - lo = (i : Int) := hi
        refine lv_tableIn hx hb hd (by omega) (by omega) (by rw [ex9, hi2]; exact ho) hoff (g H locs ls lv r2 ws tys hK hP hD hS hh hl hn hL hs)
      · next ht =>
        cases h9
        have hge : ts.length ≤ i := by simpa using ht
        have hi2 : a1 - lo = (i : Int) := hi
        exact lv_tableOut hx hb hd (Or.inr (by omega)) hdt (g H locs ls lv r2 ws tys hK hP hD hS hh hl hn hL hs)
    · next i hi =>
      cases h9
      have hi2 : a1 - lo = Int.negSucc i := hi
      exact lv_tableOut hx hb hd (Or.inl (by omega)) hdt (g H locs ls lv r2 ws tys hK hP hD hS hh hl hn hL hs)
theorem ev_lsf_ok {z dflt pcz : Int} {dt : Nat} (hdt : pcz + dflt = (dt : Int)) : ∀ {ps : List (Int × Int)} {qs : List (Int × Nat)}, ps.length = qs.length → (∀ (i : Nat) (k : Int) (t : Nat), qs[i]? = some (k, t) → ∃ off, ps[i]? = some (k, off) ∧ pcz + off = (t : Int)) → pcz + Op.lookupswitch.offset ps dflt z = ((ev_lsf z dt qs : Nat) : Int)
  | [], [], _, _ => by rw [show ev_lsf z dt [] = dt from rfl, ← hdt]; rfl
  | (k, off) :: ps, (k2, t) :: qs, hlen, h => by
    obtain ⟨off2, h1, h2⟩ := h 0 k2 t rfl
    have h1 : some (k, off) = some (k2, off2) := h1
    cases h1
    rw [Op.lookupswitch.offset_cons]
    show _ = ((cond (decide (z = k)) t (ev_lsf z dt qs) : Nat) : Int)
    by_cases hz : z = k
    · rw [if_pos (by first | exact hz | exact hz.symm), decide_eq_true hz]
      exact h2
    · rw [if_neg (by first | exact hz | exact fun q => hz q.symm), decide_eq_false hz]
      exact ev_lsf_ok hdt (by simpa using hlen) (fun i k t hi => by simpa using h (i + 1) k t (by simpa using hi))
theorem ev_lsw_ok (hx : p.tables.exec = Jvm.exec) (hb : c.code = cc) {dflt : Int} {ps : Array (Int × Int)} {len dt : Nat} {qs : List (Int × Nat)} (hd : decode cc pc = .ok (.lookupswitch dflt ps, len)) (hp : (ps.toList.zip (ps.toList.drop 1)).all (fun (a, next) => a.1 < next.1) = true) (hdt : (pc : Int) + dflt = (dt : Int)) (hlen : ps.toList.length = qs.length) (hqs : ∀ (i : Nat) (k : Int) (t : Nat), qs[i]? = some (k, t) → ∃ off, ps.toList[i]? = some (k, off) ∧ (pc : Int) + off = (t : Int)) : ev_Sim p l e R s m args below meth c Q nL D cl A H0 ex ad0 tyOf pc (ev_lsw qs dt) := by
  intro st pc' st' h g
  obtain ⟨stk, r⟩ := st
  match stk, h with
  | .inl (a1, a2) :: stk, h =>
    simp only [ev_lsw, ev_fN_eq] at h
    obtain ⟨q1, h9⟩ := ev_bt1 h
    clear h
    rw [decide_eq_true_eq] at q1
    subst q1
    cases h9
    intro H locs ls lv sv ws tys hK hP hD hS hh hl hn hL hs
    obtain ⟨w2, r2, rfl, ⟨x, rfl, hx1, hx2⟩, hs⟩ := hs
    have ex9 : x.toInt = a1 := Int.le_antisymm hx2 hx1
    exact lv_lookup hx hb hd hp rfl (by rw [ex9]; exact ev_lsf_ok hdt hlen hqs) (g H locs ls lv r2 ws tys hK hP hD hS hh hl hn hL hs)
end EvH
end
section
/-! ARRAYS OF ARRAYS (of bytes: their stores; of any: new ones). -/
theorem ev_asta_i {st st' : ev_S} {n tc ta pc' : Nat} (h : ev_asta n tc ta st = some (pc', st')) : ∃ j i k stk len els n2 els2, st.1 = .inr (.inr (some (.inl j))) :: .inl (.ofNat i, .ofNat i) :: .inr (.inr (some (.inl k))) :: stk ∧ ev_tg 10 st.2.2.1.2 k = some (.inr (tc, len, els)) ∧ i < els.length ∧ pc' = n ∧ st' = (stk, st.2.1, (st.2.2.1.1, ev_tS 10 st.2.2.1.2 k (some (.inr (tc, len, els.set i (.inr (.inr (some (.inl j)))))))), st.2.2.2) ∧ ev_tg 10 st.2.2.1.2 j = some (.inr (ta, n2, els2)) := by
  obtain ⟨stk, L, hp, r⟩ := st
  match stk, h with
  | .inr (.inr v) :: .inl (.ofNat i1, i2) :: .inr (.inr (some (.inl k))) :: stk, h =>
    simp only [ev_asta] at h
    split at h
    · next tc' len els hq =>
      obtain ⟨a1, a2, h9⟩ := ev_bt h
      clear h
      rw [decide_eq_true_eq] at a1
      subst a1
      rw [Bool.and_eq_true] at a2
      obtain ⟨a2, a3⟩ := a2
      have e1 : tc' = tc := Nat.eq_of_beq_eq_true a2
      subst e1
      rw [ev_ls_eq, ev_ts_eq] at h9
      by_cases hi : i1 < els.length
      · rw [if_pos hi] at h9
        cases h9
        match v, a3 with
        | some (.inl j), a3 =>
          dsimp only at a3
          split at a3
          · next ta' n2 els2 hj =>
            have e2 : ta' = ta := Nat.eq_of_beq_eq_true a3
            subst e2
            exact ⟨j, i1, k, stk, len, els, n2, els2, rfl, hq, hi, rfl, rfl, hj⟩
          · cases a3
      · rw [if_neg hi] at h9
        cases h9
    · cases h
section EvJ
variable {p : Program} {l : Launch} {e : Env} {R : Room} {s : State} {m : MethodId} {args : Array Value} {below : List Frame} {meth : Method} {c : Code} {Q : State → Prop} {nL : Nat} {D : va_G} {cl : List vw_C} {A : Nat → Prop} {H0 : Heap} {ex : Nat → Value} {ad0 : List Nat} {tyOf : Nat → FieldType}
variable {cc : ByteArray} {pc : Nat}
theorem ev_newA_ok (hx : p.tables.exec = Jvm.exec) (hb : c.code = cc) {own : String} {index tc cm sm : Nat} {t : FieldType} (ho : s.vm.findClass own = some m.cls) (hcl : (Cond.classLink own index (FieldType.array t).toString).before args s = true) (hover : (Cond.arrayOver (.array t)).before args s = true) (htc : tyOf tc = .array t) (hA : ∀ q, H0.size ≤ q → A q) (hcm : cm ≤ R.cells) (hsm : sm ≤ R.slots) (hd : decode cc pc = .ok (.anewarray index, 3)) : ev_Sim p l e R s m args below meth c Q nL D cl A H0 ex ad0 tyOf pc (ev_newa (pc + 3) tc 2 cm sm) := by
  intro st pc' st' h g
  obtain ⟨N, stk, e1, hN, h1, h2, h3, rfl, rfl⟩ := ev_newa_i h
  intro H locs ls lv sv ws tys hK hP hD hS hh hl hn hL hs
  rw [e1] at hs
  obtain ⟨w, r, rfl, ⟨x, rfl, hx1, hx2⟩, hr⟩ := hs
  obtain ⟨f1, f2⟩ := ev_ix hx1 hx2
  have f3 := vp_in_iff.mp (f2 (N + 1) (Nat.lt_succ_self N))
  have h0 : ¬ x < 0 := fun z => by have := Int32.lt_iff_toInt_lt.mp z; rw [Int32.toInt_zero] at this; omega
  refine W.anewA hx hb ho hcl hover rfl hd rfl h0 (by rw [f1]; omega) (Nat.le_trans h2 hcm) (by rw [f1]; exact Nat.le_trans h3 hsm) fun cA kA comp q1 q2 q3 q4 => ?_
  rw [f1]
  generalize hH1 : H.push ({ cls := cA, slots := Array.replicate N .null, vm := .none } : Cell) = H1
  have z1 : H1.size = H.size + 1 := by rw [← hH1, Array.size_push]
  have e2 : H1[H.size]? = some (arrV cA N (fun _ => .null)) := by rw [← hH1, Array.getElem?_push_size, ← arrV_new]
  have o1 : ∀ q : Nat, q < H.size → H1[q]? = H[q]? := fun q hq => by rw [← hH1, Array.getElem?_push, if_neg (Nat.ne_of_lt hq)]
  have hAr : ArrOfT s cA (.array t) := fun N z => ⟨(fun k h => by cases h), kA, q2, comp, q3⟩
  have hk : ∀ (k : Nat) (x : Nat × va_E), ws[k]? = some x → H1[x.1]? = H[x.1]? := fun k x hx => o1 x.1 ((hP k x hx).lt)
  have hP1 : va_P D cl (ws ++ [(H.size, .inl (cA, N, .inr (.inr (.inr (.inr (fun _ => none))))))]) H1 := (hP.kept hk).app (fun k x hx => by
    have hz : k < 1 := (List.getElem?_eq_some_iff.mp hx).1
    rw [show k = 0 by omega] at hx
    cases hx
    show H1[H.size]? = some (vp_cell _ _)
    rw [vp_cell_q]
    exact e2)
  have hK1 : va_K D cl (tys ++ [(cA, .array t)]) s := ⟨hK.1, fun k x hx => by
    by_cases hl : k < tys.length
    · rw [List.getElem?_append_left hl] at hx
      exact hK.2 k x hx
    · rw [List.getElem?_append_right (by omega)] at hx
      have hz : k - tys.length < 1 := (List.getElem?_eq_some_iff.mp hx).1
      rw [show k - tys.length = 0 by omega] at hx
      cases hx
      exact ⟨hAr, q1⟩⟩
  refine g H1 locs ls lv (.ref H.size :: r) _ _ hK1 hP1 (hD.push hP rfl (hA _ hS.1)) ⟨Nat.le_trans hS.1 (by omega), fun x h1 h2 => (o1 x (Nat.lt_of_lt_of_le h1 hS.1)).trans (hS.2.1 x h1 h2), hS.2.2⟩ (ev_hR_push hh h1 ev_app ⟨cA, _, rfl, List.length_replicate, by omega, by rw [htc]; exact ev_one, ?_⟩) hl hn (ev_lR_mono ev_fst_push hL) ⟨_, _, rfl, ⟨H.size, ev_last hh.1, rfl⟩, ev_kR_mono ev_fst_push hr⟩
  rw [htc]
  exact ⟨_, rfl, fun j v hj => by rw [ev_rep hj]; exact rfl⟩
theorem ev_asta_ok (hx : p.tables.exec = Jvm.exec) (hb : c.code = cc) {tc ta : Nat} (hover : (Cond.arrayOver (.array .byte)).before args s = true) (htc : tyOf tc = .array .byte) (hta : tyOf ta = .byte) (hd : decode cc pc = .ok (.aastore, 1)) : ev_Sim p l e R s m args below meth c Q nL D cl A H0 ex ad0 tyOf pc (ev_asta (pc + 1) tc ta) := by
  intro st pc' st' h g
  obtain ⟨j, i, k, stk, len, els, n2, els2, e1, hq, hi, rfl, rfl, hj⟩ := ev_asta_i h
  intro H locs ls lv sv ws tys hK hP hD hS hh hl hn hL hs
  rw [e1] at hs
  obtain ⟨w, r, rfl, hw, w1, r1, rfl, ⟨y, rfl, hy1, hy2⟩, w2, r2, rfl, hw2, hr⟩ := hs
  obtain ⟨a, e2, hwk, rfl⟩ := ev_place hw2
  obtain ⟨cA, x9, rfl, hlen, hlt, ⟨t0, ht0⟩, hel⟩ := ev_cell hh hwk hq
  have ht1 := ht0
  rw [htc] at ht1 hel
  obtain ⟨f, rfl, hf⟩ := hel
  obtain ⟨f1, f2⟩ := ev_ix hy1 hy2
  obtain ⟨b, e3, hwj, rfl⟩ := ev_place hw
  obtain ⟨cB, xB, rfl, -, -, ⟨t2, ht2⟩, helB⟩ := ev_cell hh hwj hj
  rw [hta] at ht2 helB
  obtain ⟨fB, rfl, -⟩ := helB
  have hin : vp_in y len := f2 len (by rw [← hlen]; exact hi)
  have hlt2 : y.toNatClampNeg < len := Nat.not_le.mp fun q => hin (Or.inr q)
  have h0 : ¬ y < 0 := fun q => hin (Or.inl q)
  obtain ⟨comp, cO, kO, c1, -, c3, c4, c5⟩ := arrayOverA_spec (args := args) (first := s) (s := s) (o := none) (idx := []) hover
  have hcA : s.vm.findClass ("[" ++ (FieldType.array .byte).toString) = some cA := (hK.2 t0 _ ht1).2
  have hcB : s.vm.findClass ("[" ++ (FieldType.byte).toString) = some cB := (hK.2 t2 _ ht2).2
  have e4 : cO = cA := Option.some.inj (c5.symm.trans hcA)
  subst e4
  have e5 : comp = cB := Option.some.inj (c1.symm.trans hcB)
  subst e5
  obtain ⟨-, kB, hkB, -⟩ := (hK.2 t2 _ ht2).1 0 (fun _ => .null)
  have hHb : H[b]? = some (arrV comp n2 (fun j => .int (fB j))) := hP j _ hwj
  refine W.aast hx hb (hP k _ hwk) (fun q h => by cases h) (fun h => by cases h) c3 c4 rfl hkB ⟨h0, by show _ < (arrV _ _ _).slots.size; rw [arrV_size]; exact hlt2⟩ hHb (fun q h => by cases h) hkB (va_asg _ _) rfl rfl hd fun H1 e z oq => ?_
  have hP1 : va_P D cl (ws.set k (a, .inl (cO, len, .inr (.inr (.inr (.inr (va_up f i (some b)))))))) H1 := by
    refine hP.set hD hwk ?_ oq
    show H1[a]? = some (vp_cell _ _)
    rw [e]
    rw [vp_cell_q, vp_cell_q, arrV_store]
    congr 2
    funext q
    rw [f1]
    by_cases hq : q = i
    · subst hq
      simp [updV, va_up, va_rf]
    · simp [updV, va_up, hq]
  have ea := ev_fst_set (e' := .inl (cO, len, .inr (.inr (.inr (.inr (va_up f i (some b))))))) hwk
  refine g H1 _ ls lv r2 _ tys hK hP1 (hD.set hwk) (hS.put z oq (hD.2 k _ hwk)) (ev_hR_set hh hwk ⟨cO, _, rfl, by rw [List.length_set]; exact hlen, hlt, ⟨t0, ht0⟩, ?_⟩) hl hn (by rw [ea]; exact hL) (by rw [ea]; exact hr)
  rw [htc]
  refine ⟨_, rfl, fun j2 u hj2 => ?_⟩
  have h9 := ev_upd hf hi hw j2 u hj2
  unfold va_up
  by_cases hji : j2 = i
  · rw [if_pos hji] at h9 ⊢
    exact h9
  · rw [if_neg hji] at h9 ⊢
    exact h9
end EvJ
end
section
/-! FROM WHAT IS SAID OF EACH INSTRUCTION TO WHAT IS SAID OF A METHOD. -/
def ev_okR (P : Nat → ev_I → Prop) (K : Nat → Nat → Prop) : Nat → List (Option (ev_I ⊕ Nat)) → Prop
  | _, [] => True
  | pc, none :: l => ev_okR P K (pc + 1) l
  | pc, some (.inl f) :: l => P pc f ∧ ev_okR P K (pc + 1) l
  | pc, some (.inr k) :: l => K pc k ∧ ev_okR P K (pc + 1) l
def ev_okL (P : Nat → ev_I → Prop) (K : Nat → Nat → Prop) : Nat → List (List (Option (ev_I ⊕ Nat))) → Prop
  | _, [] => True
  | pc, r :: l => ev_okR P K pc r ∧ ev_okL P K (pc + 16) l
def ev_okX (P : Nat → ev_I → Prop) (K : Nat → Nat → Prop) (pc : Nat) : ev_I ⊕ Nat → Prop
  | .inl f => P pc f
  | .inr k => K pc k
theorem ev_okR_at {P : Nat → ev_I → Prop} {K : Nat → Nat → Prop} : ∀ (l : List (Option (ev_I ⊕ Nat))) (pc : Nat), ev_okR P K pc l → ∀ (i : Nat) (x : ev_I ⊕ Nat), l[i]? = some (some x) → ev_okX P K (pc + i) x
  | [], pc, h, i, x, hi => by simp at hi
  | none :: l, pc, h, i, x, hi => by
    match i, hi with
    | 0, hi => simp at hi
    | i + 1, hi =>
      rw [show pc + (i + 1) = pc + 1 + i by omega]
      exact ev_okR_at l (pc + 1) h i x (by simpa using hi)
  | some (.inl f) :: l, pc, h, i, x, hi => by
    match i, hi with
    | 0, hi =>
      cases hi
      exact h.1
    | i + 1, hi =>
      rw [show pc + (i + 1) = pc + 1 + i by omega]
      exact ev_okR_at l (pc + 1) h.2 i x (by simpa using hi)
  | some (.inr k) :: l, pc, h, i, x, hi => by
    match i, hi with
    | 0, hi =>
      cases hi
      exact h.1
    | i + 1, hi =>
      rw [show pc + (i + 1) = pc + 1 + i by omega]
      exact ev_okR_at l (pc + 1) h.2 i x (by simpa using hi)
theorem ev_okL_at {P : Nat → ev_I → Prop} {K : Nat → Nat → Prop} : ∀ (t : List (List (Option (ev_I ⊕ Nat)))) (pc : Nat), ev_okL P K pc t → ∀ (a : Nat) (r : List (Option (ev_I ⊕ Nat))), t[a]? = some r → ev_okR P K (pc + 16 * a) r
  | [], pc, h, a, r, ha => by simp at ha
  | q :: t, pc, h, a, r, ha => by
    match a, ha with
    | 0, ha =>
      cases ha
      exact h.1
    | a + 1, ha =>
      rw [show pc + 16 * (a + 1) = pc + 16 + 16 * a by omega]
      exact ev_okL_at t (pc + 16) h.2 a r (by simpa using ha)
theorem ev_code_at {P : Nat → ev_I → Prop} {K : Nat → Nat → Prop} {t : List (List (Option (ev_I ⊕ Nat)))} (h : ev_okL P K 0 t) {pc : Nat} {x : ev_I ⊕ Nat} (hx : ev_code t pc = some x) : ev_okX P K pc x := by
  unfold ev_code at hx
  rw [ev_lg_eq] at hx
  split at hx
  · next r hr =>
    rw [ev_lg_eq] at hx
    split at hx
    · next y hy =>
      subst hx
      have h1 := ev_okR_at r _ (ev_okL_at t 0 h (pc / 16) r hr) (pc % 16) x hy
      rw [show 0 + 16 * (pc / 16) + pc % 16 = pc by omega] at h1
      exact h1
    · cases hx
  · cases hx
theorem ev_mem {α : Type} {l : List α} {w : α} (i : Nat) (h : l[i]? = some w) : w ∈ l := List.mem_of_getElem? h
theorem ev_pz {P : Nat → ev_I → Prop} {K : Nat → Nat → Prop} {pc : Nat} : ev_okR P K pc [] := trivial
theorem ev_pn {P : Nat → ev_I → Prop} {K : Nat → Nat → Prop} {pc : Nat} {l : List (Option (ev_I ⊕ Nat))} (h : ev_okR P K (pc + 1) l) : ev_okR P K pc (ev_no :: l) := h
theorem ev_pc {P : Nat → ev_I → Prop} {K : Nat → Nat → Prop} {pc : Nat} {f : ev_I} {l : List (Option (ev_I ⊕ Nat))} (h1 : P pc f) (h : ev_okR P K (pc + 1) l) : ev_okR P K pc (ev_oi f :: l) := ⟨h1, h⟩
theorem ev_ps {P : Nat → ev_I → Prop} {K : Nat → Nat → Prop} {pc k : Nat} {l : List (Option (ev_I ⊕ Nat))} (h1 : K pc k) (h : ev_okR P K (pc + 1) l) : ev_okR P K pc (ev_os k :: l) := ⟨h1, h⟩
end
section
/-! NAMES of the claim, out of its printed names (by wip/ev/pf.py). -/
def RX0 : String := "TextShell$Expander"
def TX0 : u_T := fun k => match k with
  | 0 => ("TextShell$Expander", "memory", "LTextShell$Memory;", true)
  | 1 => ("TextShell$Expander", "reader", "LTextShell$Reader;", true)
  | 2 => ("TextShell$Expander", "shell", "LTextShell$Shell;", true)
  | 3 => ("TextShell$Expander", "sum", "LTextShell$Sum;", true)
  | 4 => ("TextShell$Expander", "items", "[I", false)
  | 5 => ("TextShell$Expander", "top", "I", false)
  | 6 => ("TextShell$Expander", "signs", "I", false)
  | 7 => ("TextShell$Expander", "fields", "[LTextShell$Row;", false)
  | 8 => ("TextShell$Expander", "fieldTop", "I", false)
  | 9 => ("TextShell$Expander", "separators", "[I", true)
  | 10 => ("TextShell$Expander", "separatorsOf", "LTextShell$Row;", false)
  | 11 => ("TextShell$Expander", "scratch", "LTextShell$Row;", true)
  | 12 => ("TextShell$Expander", "pattern", "[I", false)
  | 13 => ("TextShell$Expander", "elements", "[I", false)
  | 14 => ("TextShell$Expander", "elementCount", "I", false)
  | 15 => ("TextShell$Expander", "reached", "[I", false)
  | 16 => ("TextShell$Expander", "shortest", "I", false)
  | 17 => ("TextShell$Expander", "longest", "I", false)
  | 18 => ("TextShell$Expander", "paths", "[LTextShell$Row;", false)
  | 19 => ("TextShell$Expander", "nodes", "[LTextShell$Node;", false)
  | 20 => ("TextShell$Expander", "pathCount", "I", false)
  | _ => ("TextShell$Expander", "part", "I", false)
def RX1 : String := "TextShell$Frame"
def TX1 : u_T := fun k => match k with
  | 0 => ("TextShell$Frame", "kind", "I", false)
  | 1 => ("TextShell$Frame", "state", "I", false)
  | 2 => ("TextShell$Frame", "section", "I", false)
  | 3 => ("TextShell$Frame", "line", "I", false)
  | 4 => ("TextShell$Frame", "flags", "I", false)
  | 5 => ("TextShell$Frame", "source", "LTextShell$Stream;", false)
  | 6 => ("TextShell$Frame", "script", "LTextShell$Frame;", false)
  | 7 => ("TextShell$Frame", "command", "LTextShell$Tree;", false)
  | 8 => ("TextShell$Frame", "clause", "LTextShell$Tree;", false)
  | 9 => ("TextShell$Frame", "first", "LTextShell$Tree;", false)
  | 10 => ("TextShell$Frame", "last", "LTextShell$Tree;", false)
  | 11 => ("TextShell$Frame", "start", "LTextShell$Tree;", false)
  | 12 => ("TextShell$Frame", "tail", "LTextShell$Tree;", false)
  | 13 => ("TextShell$Frame", "waiting", "LTextShell$Tree;", false)
  | 14 => ("TextShell$Frame", "number", "I", false)
  | 15 => ("TextShell$Frame", "operator", "I", false)
  | 16 => ("TextShell$Frame", "back", "I", false)
  | 17 => ("TextShell$Frame", "from", "I", false)
  | _ => ("TextShell$Frame", "mark", "I", false)
def RX2 : String := "TextShell$Memory"
def TX2 : u_T := fun k => match k with
  | 0 => ("TextShell$Memory", "buckets", "[LTextShell$Name;", true)
  | 1 => ("TextShell$Memory", "bucket", "I", false)
  | 2 => ("TextShell$Memory", "names", "[LTextShell$Name;", false)
  | 3 => ("TextShell$Memory", "size", "I", false)
  | 4 => ("TextShell$Memory", "log", "[LTextShell$Name;", false)
  | 5 => ("TextShell$Memory", "logged", "I", false)
  | 6 => ("TextShell$Memory", "subshells", "I", false)
  | 7 => ("TextShell$Memory", "saves", "[I", true)
  | 8 => ("TextShell$Memory", "places", "[LTextShell$Node;", true)
  | 9 => ("TextShell$Memory", "pool", "[LTextShell$Row;", false)
  | 10 => ("TextShell$Memory", "base", "I", false)
  | 11 => ("TextShell$Memory", "parameters", "I", false)
  | 12 => ("TextShell$Memory", "floor", "I", false)
  | 13 => ("TextShell$Memory", "options", "I", false)
  | 14 => ("TextShell$Memory", "loops", "I", false)
  | 15 => ("TextShell$Memory", "calls", "I", false)
  | 16 => ("TextShell$Memory", "root", "LTextShell$Node;", true)
  | 17 => ("TextShell$Memory", "here", "LTextShell$Node;", false)
  | 18 => ("TextShell$Memory", "separators", "LTextShell$Name;", true)
  | 19 => ("TextShell$Memory", "home", "LTextShell$Name;", true)
  | _ => ("TextShell$Memory", "nothing", "LTextShell$Row;", true)
def RX3 : String := "TextShell$Name"
def TX3 : u_T := fun k => match k with
  | 0 => ("TextShell$Name", "text", "LTextShell$Row;", true)
  | 1 => ("TextShell$Name", "index", "I", true)
  | 2 => ("TextShell$Name", "of", "LTextShell$Name;", false)
  | 3 => ("TextShell$Name", "next", "LTextShell$Name;", false)
  | 4 => ("TextShell$Name", "value", "LTextShell$Row;", false)
  | 5 => ("TextShell$Name", "readOnly", "Z", false)
  | 6 => ("TextShell$Name", "function", "LTextShell$Tree;", false)
  | 7 => ("TextShell$Name", "alias", "LTextShell$Row;", false)
  | 8 => ("TextShell$Name", "command", "I", false)
  | _ => ("TextShell$Name", "reserved", "I", false)
def RX4 : String := "TextShell$Node"
def TX4 : u_T := fun k => match k with
  | 0 => ("TextShell$Node", "name", "LTextShell$Row;", false)
  | 1 => ("TextShell$Node", "parent", "LTextShell$Node;", false)
  | 2 => ("TextShell$Node", "next", "LTextShell$Node;", false)
  | 3 => ("TextShell$Node", "first", "LTextShell$Node;", false)
  | 4 => ("TextShell$Node", "root", "LTextShell$Node;", true)
  | 5 => ("TextShell$Node", "data", "LTextShell$Row;", true)
  | 6 => ("TextShell$Node", "gone", "Z", false)
  | 7 => ("TextShell$Node", "part", "I", false)
  | 8 => ("TextShell$Node", "fits", "Z", false)
  | 9 => ("TextShell$Node", "files", "I", false)
  | 10 => ("TextShell$Node", "directories", "I", false)
  | _ => ("TextShell$Node", "bytes", "I", false)
def RX5 : String := "TextShell$Reader"
def TX5 : u_T := fun k => match k with
  | 0 => ("TextShell$Reader", "memory", "LTextShell$Memory;", true)
  | 1 => ("TextShell$Reader", "frames", "[LTextShell$Frame;", false)
  | 2 => ("TextShell$Reader", "depth", "I", false)
  | 3 => ("TextShell$Reader", "in", "LTextShell$Stream;", false)
  | 4 => ("TextShell$Reader", "code", "[I", false)
  | 5 => ("TextShell$Reader", "codes", "I", false)
  | 6 => ("TextShell$Reader", "scripts", "[LTextShell$Tree;", false)
  | 7 => ("TextShell$Reader", "scriptCount", "I", false)
  | 8 => ("TextShell$Reader", "spelled", "LTextShell$Row;", true)
  | 9 => ("TextShell$Reader", "fault", "I", false)
  | 10 => ("TextShell$Reader", "faultLine", "I", false)
  | 11 => ("TextShell$Reader", "nested", "I", false)
  | 12 => ("TextShell$Reader", "inner", "I", false)
  | 13 => ("TextShell$Reader", "commands", "I", false)
  | 14 => ("TextShell$Reader", "source", "I", false)
  | 15 => ("TextShell$Reader", "due", "I", false)
  | 16 => ("TextShell$Reader", "token", "I", false)
  | 17 => ("TextShell$Reader", "tokenLine", "I", false)
  | 18 => ("TextShell$Reader", "tokenFollows", "Z", false)
  | 19 => ("TextShell$Reader", "reserved", "I", false)
  | 20 => ("TextShell$Reader", "word", "LTextShell$Tree;", false)
  | _ => ("TextShell$Reader", "script", "LTextShell$Tree;", false)
def RX6 : String := "TextShell$Row"
def TX6 : u_T := fun k => match k with
  | 0 => ("TextShell$Row", "signs", "[C", false)
  | _ => ("TextShell$Row", "length", "I", false)
def RX7 : String := "TextShell$Shell"
def TX7 : u_T := fun k => match k with
  | 0 => ("TextShell$Shell", "memory", "LTextShell$Memory;", true)
  | 1 => ("TextShell$Shell", "reader", "LTextShell$Reader;", true)
  | 2 => ("TextShell$Shell", "expander", "LTextShell$Expander;", false)
  | 3 => ("TextShell$Shell", "tools", "LTextShell$Tools;", false)
  | 4 => ("TextShell$Shell", "base", "[LTextShell$Stream;", true)
  | 5 => ("TextShell$Shell", "open", "[LTextShell$Stream;", true)
  | 6 => ("TextShell$Shell", "closed", "LTextShell$Stream;", true)
  | 7 => ("TextShell$Shell", "savedStreams", "[LTextShell$Stream;", false)
  | 8 => ("TextShell$Shell", "savedNumbers", "[I", false)
  | 9 => ("TextShell$Shell", "redirected", "I", false)
  | 10 => ("TextShell$Shell", "lentNames", "[LTextShell$Name;", false)
  | 11 => ("TextShell$Shell", "lentValues", "[LTextShell$Row;", false)
  | 12 => ("TextShell$Shell", "lent", "I", false)
  | 13 => ("TextShell$Shell", "status", "I", false)
  | 14 => ("TextShell$Shell", "signal", "I", false)
  | 15 => ("TextShell$Shell", "leaving", "I", false)
  | 16 => ("TextShell$Shell", "level", "I", false)
  | 17 => ("TextShell$Shell", "shields", "I", false)
  | 18 => ("TextShell$Shell", "work", "I", false)
  | 19 => ("TextShell$Shell", "simples", "I", false)
  | 20 => ("TextShell$Shell", "most", "I", false)
  | 21 => ("TextShell$Shell", "halted", "I", false)
  | 22 => ("TextShell$Shell", "substituted", "I", false)
  | _ => ("TextShell$Shell", "captures", "[LTextShell$Stream;", true)
def RX8 : String := "TextShell$Stream"
def TX8 : u_T := fun k => match k with
  | 0 => ("TextShell$Stream", "data", "LTextShell$Row;", true)
  | 1 => ("TextShell$Stream", "file", "LTextShell$Node;", true)
  | 2 => ("TextShell$Stream", "reading", "Z", true)
  | 3 => ("TextShell$Stream", "most", "I", true)
  | 4 => ("TextShell$Stream", "at", "I", false)
  | 5 => ("TextShell$Stream", "line", "I", false)
  | 6 => ("TextShell$Stream", "under", "LTextShell$Stream;", false)
  | 7 => ("TextShell$Stream", "alias", "LTextShell$Name;", false)
  | _ => ("TextShell$Stream", "aliases", "I", false)
def RX9 : String := "TextShell$Sum"
def TX9 : u_T := fun k => match k with
  | 0 => ("TextShell$Sum", "memory", "LTextShell$Memory;", true)
  | 1 => ("TextShell$Sum", "numbers", "[J", true)
  | 2 => ("TextShell$Sum", "numberTop", "I", false)
  | 3 => ("TextShell$Sum", "entries", "[I", true)
  | 4 => ("TextShell$Sum", "entryTop", "I", false)
  | 5 => ("TextShell$Sum", "text", "LTextShell$Row;", false)
  | 6 => ("TextShell$Sum", "at", "I", false)
  | 7 => ("TextShell$Sum", "spelled", "LTextShell$Row;", true)
  | 8 => ("TextShell$Sum", "live", "Z", false)
  | 9 => ("TextShell$Sum", "nested", "I", false)
  | _ => ("TextShell$Sum", "wrong", "Z", false)
def RX10 : String := "TextShell$Tools"
def TX10 : u_T := fun k => match k with
  | 0 => ("TextShell$Tools", "memory", "LTextShell$Memory;", true)
  | 1 => ("TextShell$Tools", "shell", "LTextShell$Shell;", true)
  | 2 => ("TextShell$Tools", "expander", "LTextShell$Expander;", true)
  | 3 => ("TextShell$Tools", "text", "LTextShell$Row;", true)
  | 4 => ("TextShell$Tools", "made", "LTextShell$Row;", true)
  | 5 => ("TextShell$Tools", "lines", "[I", false)
  | 6 => ("TextShell$Tools", "order", "[I", false)
  | 7 => ("TextShell$Tools", "spare", "[I", false)
  | 8 => ("TextShell$Tools", "lineCount", "I", false)
  | 9 => ("TextShell$Tools", "from", "LTextShell$Row;", true)
  | 10 => ("TextShell$Tools", "table", "[I", true)
  | 11 => ("TextShell$Tools", "known", "[Z", true)
  | 12 => ("TextShell$Tools", "walkA", "[I", true)
  | 13 => ("TextShell$Tools", "walkB", "[I", true)
  | 14 => ("TextShell$Tools", "first", "I", false)
  | 15 => ("TextShell$Tools", "words", "I", false)
  | 16 => ("TextShell$Tools", "numeric", "Z", false)
  | _ => ("TextShell$Tools", "reverse", "Z", false)
def RX11 : String := "TextShell$Tree"
def TX11 : u_T := fun k => match k with
  | 0 => ("TextShell$Tree", "kind", "I", false)
  | 1 => ("TextShell$Tree", "next", "LTextShell$Tree;", false)
  | 2 => ("TextShell$Tree", "link", "I", false)
  | 3 => ("TextShell$Tree", "not", "Z", false)
  | 4 => ("TextShell$Tree", "background", "Z", false)
  | 5 => ("TextShell$Tree", "in", "Z", false)
  | 6 => ("TextShell$Tree", "number", "I", false)
  | 7 => ("TextShell$Tree", "words", "LTextShell$Tree;", false)
  | 8 => ("TextShell$Tree", "head", "LTextShell$Tree;", false)
  | 9 => ("TextShell$Tree", "test", "LTextShell$Tree;", false)
  | 10 => ("TextShell$Tree", "body", "LTextShell$Tree;", false)
  | 11 => ("TextShell$Tree", "rest", "LTextShell$Tree;", false)
  | 12 => ("TextShell$Tree", "name", "LTextShell$Name;", false)
  | 13 => ("TextShell$Tree", "code", "[I", false)
  | _ => ("TextShell$Tree", "told", "LTextShell$Row;", false)
def RX12 : String := "TextShell"
def TX12 : u_T := fun k => match k with
  | 0 => ("TextShell", "tape", "LTextShell$Row;", true)
  | 1 => ("TextShell", "printed", "LTextShell$Row;", true)
  | 2 => ("TextShell", "answer", "LTextShell$Row;", true)
  | 3 => ("TextShell", "memory", "LTextShell$Memory;", true)
  | 4 => ("TextShell", "reader", "LTextShell$Reader;", true)
  | 5 => ("TextShell", "shell", "LTextShell$Shell;", true)
  | 6 => ("TextShell", "script", "LTextShell$Tree;", false)
  | 7 => ("TextShell", "commands", "I", false)
  | 8 => ("TextShell", "hasPrint", "Z", false)
  | _ => ("TextShell", "hasAnswer", "Z", false)
def RX14 : String := "TextShellModel$Bytes"
def TX14 : u_T := fun k => match k with
  | 0 => ("TextShellModel$Bytes", "b", "[B", false)
  | _ => ("TextShellModel$Bytes", "n", "I", false)
def RX18 : String := "TextShellModel$Entry"
def TX18 : u_T := fun k => match k with
  | 0 => ("TextShellModel$Entry", "name", "[B", false)
  | 1 => ("TextShellModel$Entry", "value", "[B", false)
  | 2 => ("TextShellModel$Entry", "function", "LTextShellModel$Cmd;", false)
  | 3 => ("TextShellModel$Entry", "set", "Z", false)
  | 4 => ("TextShellModel$Entry", "fixed", "Z", false)
  | 5 => ("TextShellModel$Entry", "level", "I", false)
  | 6 => ("TextShellModel$Entry", "table", "LTextShellModel$Table;", false)
  | _ => ("TextShellModel$Entry", "next", "LTextShellModel$Entry;", false)
def RX19 : String := "TextShellModel$Input"
def TX19 : u_T := fun k => match k with
  | 0 => ("TextShellModel$Input", "b", "[B", false)
  | 1 => ("TextShellModel$Input", "n", "I", false)
  | 2 => ("TextShellModel$Input", "pos", "I", false)
  | 3 => ("TextShellModel$Input", "line", "I", false)
  | 4 => ("TextShellModel$Input", "lines", "[I", false)
  | 5 => ("TextShellModel$Input", "alias", "LTextShellModel$Entry;", false)
  | 6 => ("TextShellModel$Input", "below", "LTextShellModel$Input;", false)
  | _ => ("TextShellModel$Input", "up", "LTextShellModel$Input;", false)
def RX21 : String := "TextShellModel$Node"
def TX21 : u_T := fun k => match k with
  | 0 => ("TextShellModel$Node", "name", "[B", false)
  | 1 => ("TextShellModel$Node", "above", "LTextShellModel$Node;", false)
  | 2 => ("TextShellModel$Node", "first", "LTextShellModel$Node;", false)
  | 3 => ("TextShellModel$Node", "next", "LTextShellModel$Node;", false)
  | 4 => ("TextShellModel$Node", "directory", "Z", false)
  | 5 => ("TextShellModel$Node", "gone", "Z", false)
  | _ => ("TextShellModel$Node", "data", "LTextShellModel$Bytes;", true)
def RX22 : String := "TextShellModel$Open"
def TX22 : u_T := fun k => match k with
  | 0 => ("TextShellModel$Open", "kind", "I", false)
  | 1 => ("TextShellModel$Open", "pos", "I", false)
  | 2 => ("TextShellModel$Open", "limit", "I", false)
  | 3 => ("TextShellModel$Open", "bytes", "LTextShellModel$Bytes;", false)
  | _ => ("TextShellModel$Open", "file", "LTextShellModel$Node;", false)
def RX25 : String := "TextShellModel$Reader"
def TX25 : u_T := fun k => match k with
  | 0 => ("TextShellModel$Reader", "house", "LTextShellModel;", true)
  | 1 => ("TextShellModel$Reader", "in", "LTextShellModel$Input;", false)
  | 2 => ("TextShellModel$Reader", "limit", "LTextShellModel$Input;", false)
  | 3 => ("TextShellModel$Reader", "token", "I", false)
  | 4 => ("TextShellModel$Reader", "tokenLine", "I", false)
  | 5 => ("TextShellModel$Reader", "digit", "I", false)
  | 6 => ("TextShellModel$Reader", "word", "LTextShellModel$Word;", false)
  | 7 => ("TextShellModel$Reader", "tokenIn", "LTextShellModel$Input;", false)
  | 8 => ("TextShellModel$Reader", "follows", "Z", false)
  | 9 => ("TextShellModel$Reader", "first", "LTextShellModel$Doc;", false)
  | 10 => ("TextShellModel$Reader", "last", "LTextShellModel$Doc;", false)
  | 11 => ("TextShellModel$Reader", "depth", "I", false)
  | 12 => ("TextShellModel$Reader", "inner", "I", false)
  | 13 => ("TextShellModel$Reader", "commands", "I", false)
  | 14 => ("TextShellModel$Reader", "tells", "Z", false)
  | 15 => ("TextShellModel$Reader", "rawDepth", "I", false)
  | _ => ("TextShellModel$Reader", "rawIn", "LTextShellModel$Input;", false)
def RX26 : String := "TextShellModel$Table"
def TX26 : u_T := fun k => match k with
  | 0 => ("TextShellModel$Table", "all", "Ljava/util/ArrayList;", true)
  | 1 => ("TextShellModel$Table", "heads", "[LTextShellModel$Entry;", true)
  | 2 => ("TextShellModel$Table", "many", "I", false)
  | _ => ("TextShellModel$Table", "fixed", "I", false)
def tyX26 : Nat → FieldType := fun k => match k with
  | 0 => .object "java/util/ArrayList"
  | 1 => .array (.object "TextShellModel$Entry")
  | 2 => .int
  | _ => .int
theorem nmX26 : ∀ a, a < 4 → ∀ b, b < 4 → a ≠ b → (TX26 a).2.1 ≠ (TX26 b).2.1 := by decide +kernel
theorem tyX26_ok : ∀ k, k < 4 → parseFieldDescriptor (TX26 k).2.2.1 = some (tyX26 k) := by decide +kernel
abbrev cX26_clear : ByteArray := prog_29_method_4_code
def RX28 : String := "TextShellModel"
def TX28 : u_T := fun k => match k with
  | 0 => ("TextShellModel", "small", "[[B", true)
  | 1 => ("TextShellModel", "emptyRow", "[B", true)
  | 2 => ("TextShellModel", "singles", "[[B", true)
  | 3 => ("TextShellModel", "stop", "Ljava/lang/IllegalStateException;", true)
  | 4 => ("TextShellModel", "fault", "I", false)
  | 5 => ("TextShellModel", "raw", "LTextShellModel$Bytes;", true)
  | 6 => ("TextShellModel", "run", "LTextShellModel$Bytes;", true)
  | 7 => ("TextShellModel", "rows", "[I", false)
  | 8 => ("TextShellModel", "source", "J", false)
  | 9 => ("TextShellModel", "readCommands", "I", false)
  | 10 => ("TextShellModel", "found", "LTextShellModel$AndOr;", false)
  | 11 => ("TextShellModel", "out", "LTextShellModel$Bytes;", false)
  | 12 => ("TextShellModel", "waiting", "LTextShellModel$Doc;", false)
  | 13 => ("TextShellModel", "latest", "LTextShellModel$Doc;", false)
  | 14 => ("TextShellModel", "root", "LTextShellModel$Node;", false)
  | 15 => ("TextShellModel", "here", "LTextShellModel$Node;", false)
  | 16 => ("TextShellModel", "files", "I", false)
  | 17 => ("TextShellModel", "directories", "I", false)
  | 18 => ("TextShellModel", "filled", "I", false)
  | 19 => ("TextShellModel", "placeIn", "LTextShellModel$Node;", false)
  | 20 => ("TextShellModel", "placeName", "[B", false)
  | 21 => ("TextShellModel", "listed", "Ljava/util/ArrayList;", true)
  | 22 => ("TextShellModel", "open", "[LTextShellModel$Open;", true)
  | 23 => ("TextShellModel", "work", "J", false)
  | 24 => ("TextShellModel", "variables", "LTextShellModel$Table;", true)
  | 25 => ("TextShellModel", "functions", "LTextShellModel$Table;", true)
  | 26 => ("TextShellModel", "aliases", "LTextShellModel$Table;", true)
  | 27 => ("TextShellModel", "parameters", "[[B", false)
  | 28 => ("TextShellModel", "firstParameter", "I", false)
  | 29 => ("TextShellModel", "manyParameters", "I", false)
  | 30 => ("TextShellModel", "optionE", "Z", false)
  | 31 => ("TextShellModel", "optionF", "Z", false)
  | 32 => ("TextShellModel", "optionU", "Z", false)
  | 33 => ("TextShellModel", "status", "I", false)
  | 34 => ("TextShellModel", "flow", "I", false)
  | 35 => ("TextShellModel", "loops", "I", false)
  | 36 => ("TextShellModel", "outOf", "I", false)
  | 37 => ("TextShellModel", "functionsAround", "I", false)
  | 38 => ("TextShellModel", "nest", "I", false)
  | 39 => ("TextShellModel", "quiet", "I", false)
  | 40 => ("TextShellModel", "most", "I", false)
  | 41 => ("TextShellModel", "simples", "I", false)
  | 42 => ("TextShellModel", "level", "I", false)
  | 43 => ("TextShellModel", "subStatus", "I", false)
  | 44 => ("TextShellModel", "stoppedByMost", "Z", false)
  | 45 => ("TextShellModel", "changed", "Ljava/util/ArrayList;", true)
  | 46 => ("TextShellModel", "oldValues", "[[B", false)
  | 47 => ("TextShellModel", "oldFunctions", "[LTextShellModel$Cmd;", false)
  | 48 => ("TextShellModel", "oldOthers", "[I", false)
  | 49 => ("TextShellModel", "homeName", "[B", true)
  | 50 => ("TextShellModel", "ifsName", "[B", true)
  | 51 => ("TextShellModel", "cells", "[[I", false)
  | 52 => ("TextShellModel", "top", "I", false)
  | 53 => ("TextShellModel", "chars", "I", false)
  | 54 => ("TextShellModel", "shell", "[B", true)
  | 55 => ("TextShellModel", "options", "[[B", true)
  | 56 => ("TextShellModel", "ifs", "[B", false)
  | 57 => ("TextShellModel", "pathBytes", "[B", false)
  | 58 => ("TextShellModel", "moreBytes", "[B", false)
  | 59 => ("TextShellModel", "pathEnds", "[I", false)
  | 60 => ("TextShellModel", "moreEnds", "[I", false)
  | 61 => ("TextShellModel", "pathNodes", "[LTextShellModel$Node;", false)
  | 62 => ("TextShellModel", "moreNodes", "[LTextShellModel$Node;", false)
  | 63 => ("TextShellModel", "pathMany", "I", false)
  | 64 => ("TextShellModel", "moreMany", "I", false)
  | 65 => ("TextShellModel", "sorted", "Ljava/util/ArrayList;", true)
  | 66 => ("TextShellModel", "partName", "[B", false)
  | 67 => ("TextShellModel", "partLong", "I", false)
  | 68 => ("TextShellModel", "partWild", "Z", false)
  | 69 => ("TextShellModel", "pathWork", "I", false)
  | 70 => ("TextShellModel", "pathChars", "I", false)
  | 71 => ("TextShellModel", "signs", "[I", false)
  | 72 => ("TextShellModel", "sets", "[J", false)
  | 73 => ("TextShellModel", "many", "I", false)
  | 74 => ("TextShellModel", "manySets", "I", false)
  | 75 => ("TextShellModel", "at", "[Z", false)
  | 76 => ("TextShellModel", "then", "[Z", false)
  | 77 => ("TextShellModel", "leastAt", "I", false)
  | 78 => ("TextShellModel", "mostAt", "I", false)
  | 79 => ("TextShellModel", "sum", "[B", false)
  | 80 => ("TextShellModel", "place", "I", false)
  | 81 => ("TextShellModel", "within", "I", false)
  | 82 => ("TextShellModel", "bad", "Z", false)
  | 83 => ("TextShellModel", "number", "J", false)
  | 84 => ("TextShellModel", "keptOnes", "Ljava/util/ArrayList;", true)
  | 85 => ("TextShellModel", "value", "J", false)
  | 86 => ("TextShellModel", "begins", "[I", false)
  | 87 => ("TextShellModel", "manyLines", "I", false)
  | 88 => ("TextShellModel", "setAt", "I", false)
  | 89 => ("TextShellModel", "low", "I", false)
  | 90 => ("TextShellModel", "high", "I", false)
  | 91 => ("TextShellModel", "thrown", "I", false)
  | 92 => ("TextShellModel", "tape", "LTextShellModel$Bytes;", true)
  | 93 => ("TextShellModel", "script", "LTextShellModel$AndOr;", false)
  | 94 => ("TextShellModel", "isThere", "Z", false)
  | 95 => ("TextShellModel", "isPrinted", "Z", false)
  | 96 => ("TextShellModel", "isAnswered", "Z", false)
  | 97 => ("TextShellModel", "commands", "I", false)
  | 98 => ("TextShellModel", "answerLength", "I", false)
  | 99 => ("TextShellModel", "printed", "LTextShellModel$Bytes;", true)
  | 100 => ("TextShellModel", "output", "LTextShellModel$Bytes;", true)
  | 101 => ("TextShellModel", "errors", "LTextShellModel$Bytes;", true)
  | 102 => ("TextShellModel", "answer", "LTextShellModel$Bytes;", true)
  | _ => ("TextShellModel", "input", "LTextShellModel$Open;", false)
def RJx4a65c : String := "java/util/ArrayList"
def TJx4a65c : u_T := fun k => match k with
  | 0 => ("java/util/AbstractList", "modCount", "I", false)
  | 1 => ("java/util/ArrayList", "elementData", "[Ljava/lang/Object;", false)
  | _ => ("java/util/ArrayList", "size", "I", false)
theorem dX26_clear_0 : decode cX26_clear 0 = .ok (.iconst 0, 1) := by decide +kernel
theorem dX26_clear_1 : decode cX26_clear 1 = .ok (.istore_n 1, 1) := by decide +kernel
theorem dX26_clear_2 : decode cX26_clear 2 = .ok (.iload_n 1, 1) := by decide +kernel
theorem dX26_clear_3 : decode cX26_clear 3 = .ok (.sipush 512, 3) := by decide +kernel
theorem dX26_clear_6 : decode cX26_clear 6 = .ok (.if_icmp .ge 16, 3) := by decide +kernel
theorem dX26_clear_9 : decode cX26_clear 9 = .ok (.aload_n 0, 1) := by decide +kernel
theorem dX26_clear_10 : decode cX26_clear 10 = .ok (.getfield 18, 3) := by decide +kernel
theorem dX26_clear_13 : decode cX26_clear 13 = .ok (.iload_n 1, 1) := by decide +kernel
theorem dX26_clear_14 : decode cX26_clear 14 = .ok (.aconst_null, 1) := by decide +kernel
theorem dX26_clear_15 : decode cX26_clear 15 = .ok (.aastore, 1) := by decide +kernel
theorem dX26_clear_16 : decode cX26_clear 16 = .ok (.iinc 1 1, 3) := by decide +kernel
theorem dX26_clear_19 : decode cX26_clear 19 = .ok (.goto (-17), 3) := by decide +kernel
theorem dX26_clear_22 : decode cX26_clear 22 = .ok (.aload_n 0, 1) := by decide +kernel
theorem dX26_clear_23 : decode cX26_clear 23 = .ok (.iconst 0, 1) := by decide +kernel
theorem dX26_clear_24 : decode cX26_clear 24 = .ok (.putfield 45, 3) := by decide +kernel
theorem dX26_clear_27 : decode cX26_clear 27 = .ok (.aload_n 0, 1) := by decide +kernel
theorem dX26_clear_28 : decode cX26_clear 28 = .ok (.iconst 0, 1) := by decide +kernel
theorem dX26_clear_29 : decode cX26_clear 29 = .ok (.putfield 49, 3) := by decide +kernel
theorem dX26_clear_32 : decode cX26_clear 32 = .ok (.return_, 1) := by decide +kernel
end
section
/-! THE CLAIM'S METHODS AS PICTURES (printed by wip/ev/gen.py). -/
def ev_lits : List (List Int) := [[73, 70, 83], [72, 79, 77, 69], [33], [123], [125], [99, 97, 115, 101], [100, 111], [100, 111, 110, 101], [101, 108, 105, 102], [101, 108, 115, 101], [101, 115, 97, 99], [102, 105], [102, 111, 114], [105, 102], [105, 110], [116, 104, 101, 110], [117, 110, 116, 105, 108], [119, 104, 105, 108, 101], [58], [46], [101, 118, 97, 108], [98, 114, 101, 97, 107], [99, 111, 110, 116, 105, 110, 117, 101], [114, 101, 116, 117, 114, 110], [101, 120, 105, 116], [115, 101, 116], [115, 104, 105, 102, 116], [117, 110, 115, 101, 116], [114, 101, 97, 100, 111, 110, 108, 121], [101, 120, 112, 111, 114, 116], [116, 114, 117, 101], [102, 97, 108, 115, 101], [101, 99, 104, 111], [112, 114, 105, 110, 116, 102], [116, 101, 115, 116], [91], [114, 101, 97, 100], [99, 100], [112, 119, 100], [97, 108, 105, 97, 115], [117, 110, 97, 108, 105, 97, 115], [99, 97, 116], [119, 99], [104, 101, 97, 100], [116, 97, 105, 108], [115, 111, 114, 116], [117, 110, 105, 113], [116, 114], [99, 117, 116], [103, 114, 101, 112], [115, 101, 113], [108, 115], [109, 107, 100, 105, 114], [114, 109], [116, 111, 117, 99, 104], [99, 112], [109, 118], [110, 111, 32, 115, 117, 99, 104, 32, 98, 121, 116, 101, 115, 32, 111, 102, 32, 97, 32, 116, 101, 120, 116], [110, 111, 32, 115, 99, 114, 105, 112, 116], [110, 111, 32, 115, 117, 99, 104, 32, 107, 105, 110, 100, 44, 32, 111, 114, 32, 110, 111, 32, 115, 117, 99, 104, 32, 98, 121, 116, 101, 115, 32, 111, 102, 32, 97, 32, 116, 101, 120, 116]]
def ev_lit_value (j : Nat) : Option ev_V := cond (Nat.beq (j % 2) 0) (some (ev_ext (j + 1))) none
def ev_lit_coder (j : Nat) : Option ev_V := cond (Nat.beq (j % 2) 0) (some (ev_int 0)) none
def ev_lit_len (j : Nat) : Option Nat := match ev_lg ev_lits (j / 2) with
  | some l => some l.length
  | none => none
def ev_lit_at (j i : Nat) : Option Int := match ev_lg ev_lits (j / 2) with
  | some l => ev_lg l i
  | none => none
def ev_rclit (_ : ev_Hp) (as : List ev_V) : Bool := match as with
  | .inr (.inr (some (.inr j))) :: _ => Nat.beq (j % 2) 0 && Nat.blt j 120
  | _ => false
def ev_f0 : List ev_V := [ev_null, ev_int 0]
def ev_f1 : List ev_V := [ev_null, ev_null, ev_null, ev_null, ev_null, ev_null, ev_null, ev_int 0, ev_int 0, ev_int 0]
def ev_f2 : List ev_V := [ev_null, ev_int 0, ev_null, ev_int 0, ev_null, ev_int 0, ev_int 0, ev_null, ev_null, ev_null, ev_int 0, ev_int 0, ev_int 0, ev_int 0, ev_int 0, ev_int 0, ev_null, ev_null, ev_null, ev_null, ev_null]
def ev_f3 : List ev_V := [ev_null, ev_null, ev_int 0, ev_null, ev_null, ev_int 0, ev_null, ev_int 0, ev_null, ev_int 0, ev_int 0, ev_int 0, ev_int 0, ev_int 0, ev_int 0, ev_int 0, ev_int 0, ev_int 0, ev_int 0, ev_int 0, ev_null, ev_null]
def ev_f4 : List ev_V := [ev_null, ev_null, ev_null, ev_null, ev_null, ev_null, ev_null, ev_null, ev_null, ev_int 0, ev_null, ev_null, ev_int 0, ev_int 0, ev_int 0, ev_int 0, ev_int 0, ev_int 0, ev_int 0, ev_int 0, ev_int 0, ev_int 0, ev_int 0, ev_null]
def ev_f5 : List ev_V := [ev_null, ev_null, ev_null, ev_null, ev_null, ev_int 0, ev_int 0, ev_null, ev_int 0, ev_null, ev_null, ev_null, ev_null, ev_null, ev_int 0, ev_null, ev_int 0, ev_int 0, ev_null, ev_null, ev_int 0, ev_int 0]
def ev_f6 : List ev_V := [ev_null, ev_null, ev_null, ev_null, ev_null, ev_null, ev_null, ev_null, ev_int 0, ev_null, ev_null, ev_null, ev_null, ev_null, ev_int 0, ev_int 0, ev_int 0, ev_int 0]
def ev_f7 : List ev_V := [ev_null, ev_null, ev_int 0, ev_int 0, ev_int 0, ev_int 0, ev_null, ev_null, ev_int 0]
def ev_f8 : List ev_V := [ev_null, ev_null, ev_null, ev_null, ev_null, ev_null, ev_int 0, ev_int 0, ev_int 0, ev_int 0, ev_int 0, ev_int 0]
def ev_f9 : List ev_V := [ev_null, ev_null, ev_int 0, ev_null, ev_int 0, ev_null, ev_int 0, ev_null, ev_int 0, ev_int 0, ev_int 0]
def ev_f10 : List ev_V := [ev_int 0, ev_int 0, ev_int 0, ev_int 0, ev_int 0, ev_null, ev_null, ev_null, ev_null, ev_null, ev_null, ev_null, ev_null, ev_null, ev_int 0, ev_int 0, ev_int 0, ev_int 0, ev_int 0]
def ev_f11 : List ev_V := [ev_null, ev_int 0, ev_null, ev_null, ev_null, ev_int 0, ev_null, ev_null, ev_int 0, ev_int 0]
def ev_f12 : List ev_V := [ev_int 0, ev_null, ev_int 0, ev_int 0, ev_int 0, ev_int 0, ev_int 0, ev_null, ev_null, ev_null, ev_null, ev_null, ev_null, ev_null, ev_null]
def ev_f13 : List ev_V := [ev_null, ev_null, ev_null, ev_null, ev_int 0, ev_null, ev_null, ev_null, .inr (.inl (0, 0)), ev_int 0, ev_null, ev_null, ev_null, ev_null, ev_null, ev_null, ev_int 0, ev_int 0, ev_int 0, ev_null, ev_null, ev_null, ev_null, .inr (.inl (0, 0)), ev_null, ev_null, ev_null, ev_null, ev_int 0, ev_int 0, ev_int 0, ev_int 0, ev_int 0, ev_int 0, ev_int 0, ev_int 0, ev_int 0, ev_int 0, ev_int 0, ev_int 0, ev_int 0, ev_int 0, ev_int 0, ev_int 0, ev_int 0, ev_null, ev_null, ev_null, ev_null, ev_null, ev_null, ev_null, ev_int 0, ev_int 0, ev_null, ev_null, ev_null, ev_null, ev_null, ev_null, ev_null, ev_null, ev_null, ev_int 0, ev_int 0, ev_null, ev_null, ev_int 0, ev_int 0, ev_int 0, ev_int 0, ev_null, ev_null, ev_int 0, ev_int 0, ev_null, ev_null, ev_int 0, ev_int 0, ev_null, ev_int 0, ev_int 0, ev_int 0, .inr (.inl (0, 0)), ev_null, .inr (.inl (0, 0)), ev_null, ev_int 0, ev_int 0, ev_int 0, ev_int 0, ev_int 0, ev_null, ev_null, ev_int 0, ev_int 0, ev_int 0, ev_int 0, ev_int 0, ev_null, ev_null, ev_null, ev_null, ev_null]
def ev_f14 : List ev_V := [ev_null, ev_int 0]
def ev_f15 : List ev_V := [ev_null, ev_null, ev_null, ev_null, ev_int 0, ev_int 0, ev_null]
def ev_f16 : List ev_V := [ev_int 0, ev_null, ev_int 0]
def ev_f17 : List ev_V := [ev_null, ev_null, ev_int 0, ev_int 0]
def ev_f18 : List ev_V := [ev_int 0, ev_int 0, ev_int 0, ev_null, ev_null]
def ev_f19 : List ev_V := [ev_null, ev_null, ev_null, ev_int 0, ev_int 0, ev_int 0, ev_null, ev_null, ev_int 0, ev_null, ev_null, ev_int 0, ev_int 0, ev_int 0, ev_int 0, ev_int 0, ev_null]
def ev_f20 : List ev_V := [ev_null, ev_int 0, ev_int 0, ev_int 0, ev_null, ev_null, ev_null, ev_null]
def ev_f21 : List ev_V := [ev_null, ev_null, ev_null, ev_int 0, ev_int 0, ev_int 0, ev_null, ev_null]
noncomputable def ev_r0_0 (E : ev_E) : List (Option (ev_I ⊕ Nat)) := [ev_oi (ev_aload 1 0), ev_oi (ev_objinit 4), ev_no, ev_no, ev_oi (ev_aload 5 0), ev_oi (ev_new 8 0 2 357 18203 ev_f0), ev_no, ev_no, ev_oi (ev_dup 9), ev_oi (ev_push 11 (ev_int 64)), ev_no, ev_oi (ev_call 14 52 2 1 64 357 18203 (ev_recv 0) E), ev_no, ev_no, ev_oi (ev_put 17 1 0 5), ev_no]
noncomputable def ev_r0_1 (E : ev_E) : List (Option (ev_I ⊕ Nat)) := [ev_no, ev_oi (ev_aload 18 0), ev_oi (ev_new 21 0 2 357 18203 ev_f0), ev_no, ev_no, ev_oi (ev_dup 22), ev_oi (ev_push 24 (ev_int 64)), ev_no, ev_oi (ev_call 27 52 2 1 64 357 18203 (ev_recv 0) E), ev_no, ev_no, ev_oi (ev_put 30 1 1 5), ev_no, ev_no, ev_oi (ev_aload 31 0), ev_oi (ev_new 34 0 2 357 18203 ev_f0)]
noncomputable def ev_r0_2 (E : ev_E) : List (Option (ev_I ⊕ Nat)) := [ev_no, ev_no, ev_oi (ev_dup 35), ev_oi (ev_push 37 (ev_int 64)), ev_no, ev_oi (ev_call 40 52 2 1 64 357 18203 (ev_recv 0) E), ev_no, ev_no, ev_oi (ev_put 43 1 2 5), ev_no, ev_no, ev_oi (ev_aload 44 0), ev_oi (ev_new 47 2 21 357 18203 ev_f2), ev_no, ev_no, ev_oi (ev_dup 48)]
noncomputable def ev_r0_3 (E : ev_E) : List (Option (ev_I ⊕ Nat)) := [ev_oi (ev_call 51 21 1 296 9230 357 18203 (ev_recv 2) E), ev_no, ev_no, ev_oi (ev_put 54 1 3 5), ev_no, ev_no, ev_oi (ev_aload 55 0), ev_oi (ev_new 58 3 22 357 18203 ev_f3), ev_no, ev_no, ev_oi (ev_dup 59), ev_oi (ev_aload 60 0), ev_oi (ev_get 63 1 3), ev_no, ev_no, ev_oi (ev_call 66 34 2 5 210 357 18203 (ev_recv 3) E)]
noncomputable def ev_r0_4 (E : ev_E) : List (Option (ev_I ⊕ Nat)) := [ev_no, ev_no, ev_oi (ev_put 69 1 4 5), ev_no, ev_no, ev_oi (ev_aload 70 0), ev_oi (ev_new 73 4 24 357 18203 ev_f4), ev_no, ev_no, ev_oi (ev_dup 74), ev_oi (ev_aload 75 0), ev_oi (ev_get 78 1 3), ev_no, ev_no, ev_oi (ev_aload 79 0), ev_oi (ev_get 82 1 4)]
noncomputable def ev_r0_5 (E : ev_E) : List (Option (ev_I ⊕ Nat)) := [ev_no, ev_no, ev_oi (ev_call 85 61 3 17 365 357 18203 (ev_recv 4) E), ev_no, ev_no, ev_oi (ev_put 88 1 5 5), ev_no, ev_no, ev_oi (ev_new 91 5 22 357 18203 ev_f5), ev_no, ev_no, ev_oi (ev_dup 92), ev_oi (ev_aload 93 0), ev_oi (ev_get 96 1 3), ev_no, ev_no]
noncomputable def ev_r0_6 (E : ev_E) : List (Option (ev_I ⊕ Nat)) := [ev_oi (ev_aload 97 0), ev_oi (ev_get 100 1 4), ev_no, ev_no, ev_oi (ev_aload 101 0), ev_oi (ev_get 104 1 5), ev_no, ev_no, ev_oi (ev_call 107 17 4 15 7183 357 18203 (ev_recv 5) E), ev_no, ev_no, ev_oi (ev_astore 108 1), ev_oi (ev_aload 109 0), ev_oi (ev_get 112 1 5), ev_no, ev_no]
noncomputable def ev_r0_7 (E : ev_E) : List (Option (ev_I ⊕ Nat)) := [ev_oi (ev_aload 113 1), ev_oi (ev_put 116 4 2 5), ev_no, ev_no, ev_oi (ev_aload 117 0), ev_oi (ev_get 120 1 5), ev_no, ev_no, ev_oi (ev_new 123 6 18 357 18203 ev_f6), ev_no, ev_no, ev_oi (ev_dup 124), ev_oi (ev_aload 125 0), ev_oi (ev_get 128 1 3), ev_no, ev_no]
noncomputable def ev_r0_8 (E : ev_E) : List (Option (ev_I ⊕ Nat)) := [ev_oi (ev_aload 129 0), ev_oi (ev_get 132 1 5), ev_no, ev_no, ev_oi (ev_aload 133 1), ev_oi (ev_call 136 65 4 13 910 357 18203 (ev_recv 6) E), ev_no, ev_no, ev_oi (ev_put 139 4 3 5), ev_no, ev_no, ev_os 0, ev_no, ev_no, ev_no, ev_no]
/-- 0: TextShell.<init>()V -/
noncomputable def ev_m0 (E : ev_E) : Nat → Option (ev_I ⊕ Nat) := ev_code [ev_r0_0 E, ev_r0_1 E, ev_r0_2 E, ev_r0_3 E, ev_r0_4 E, ev_r0_5 E, ev_r0_6 E, ev_r0_7 E, ev_r0_8 E]
noncomputable def ev_r1_0 (E : ev_E) : List (Option (ev_I ⊕ Nat)) := [ev_oi (ev_iload 1 1), ev_oi (ev_if 2 4 18), ev_no, ev_no, ev_oi (ev_iload 5 1), ev_oi (ev_push 6 (ev_int 4)), ev_oi (ev_icmp 4 9 18), ev_no, ev_no, ev_oi (ev_aload 10 0), ev_oi (ev_iload 11 2), ev_oi (ev_push 12 (ev_int 0)), ev_oi (ev_call 15 7 3 0 0 2 66 (ev_recv 1) E), ev_no, ev_no, ev_oi (ev_if 1 18 28)]
noncomputable def ev_r1_1 (E : ev_E) : List (Option (ev_I ⊕ Nat)) := [ev_no, ev_no, ev_no, ev_no, ev_no, ev_oi (ev_dup 22), ev_oi (ev_push 24 (ev_ext 118)), ev_no, ev_no, ev_no, ev_no, ev_no, ev_oi (ev_aload 29 0), ev_oi (ev_get 32 1 0), ev_no, ev_no]
noncomputable def ev_r1_2 (E : ev_E) : List (Option (ev_I ⊕ Nat)) := [ev_oi (ev_push 33 (ev_int 0)), ev_oi (ev_iload 34 2), ev_oi (ev_call 37 59 3 2 66 2 66 (ev_recv 0) E), ev_no, ev_no, ev_oi (ev_astore 38 3), ev_oi (ev_aload 39 0), ev_oi (ev_get 42 1 0), ev_no, ev_no, ev_oi (ev_push 43 (ev_int 0)), ev_oi (ev_put 46 0 1 0), ev_no, ev_no, ev_oi (ev_aload 47 0), ev_oi (ev_get 50 1 2)]
noncomputable def ev_r1_3 (E : ev_E) : List (Option (ev_I ⊕ Nat)) := [ev_no, ev_no, ev_oi (ev_push 51 (ev_int 0)), ev_oi (ev_put 54 0 1 0), ev_no, ev_no, ev_oi (ev_aload 55 0), ev_oi (ev_iload 56 1), ev_oi (ev_push 57 (ev_int 1)), ev_oi (ev_icmp 0 60 65), ev_no, ev_no, ev_oi (ev_iload 61 1), ev_oi (ev_push 62 (ev_int 4)), ev_oi (ev_icmp 1 65 74), ev_no]
noncomputable def ev_r1_4 (E : ev_E) : List (Option (ev_I ⊕ Nat)) := [ev_no, ev_oi (ev_aload 66 0), ev_oi (ev_iload 67 1), ev_oi (ev_aload 68 3), ev_oi (ev_call 71 15 3 0 0 2 66 (ev_recv 1) E), ev_no, ev_no, ev_oi (ev_goto 80), ev_no, ev_no, ev_oi (ev_aload 75 0), ev_oi (ev_iload 76 1), ev_oi (ev_aload 77 3), ev_oi (ev_call 80 16 3 0 0 2 66 (ev_recv 1) E), ev_no, ev_no]
noncomputable def ev_r1_5 (E : ev_E) : List (Option (ev_I ⊕ Nat)) := [ev_oi (ev_put 83 1 9 1), ev_no, ev_no, ev_oi (ev_aload 84 0), ev_oi (ev_get 87 1 9), ev_no, ev_no, ev_oi (ev_if 0 90 100), ev_no, ev_no, ev_no, ev_no, ev_no, ev_no, ev_no, ev_no]
noncomputable def ev_r1_6 (E : ev_E) : List (Option (ev_I ⊕ Nat)) := [ev_no, ev_no, ev_no, ev_no, ev_oi (ev_push 101 (ev_int (-1))), ev_os 1, ev_no, ev_no, ev_no, ev_no, ev_no, ev_no, ev_no, ev_no, ev_no, ev_no]
/-- 1: TextShell.ask(II)I -/
noncomputable def ev_m1 (E : ev_E) : Nat → Option (ev_I ⊕ Nat) := ev_code [ev_r1_0 E, ev_r1_1 E, ev_r1_2 E, ev_r1_3 E, ev_r1_4 E, ev_r1_5 E, ev_r1_6 E]
noncomputable def ev_r2_0 (E : ev_E) : List (Option (ev_I ⊕ Nat)) := [ev_oi (ev_iload 1 1), ev_oi (ev_tsw 0 [32, 52, 52, 69] 89), ev_no, ev_no, ev_no, ev_no, ev_no, ev_no, ev_no, ev_no, ev_no, ev_no, ev_no, ev_no, ev_no, ev_no]
noncomputable def ev_r2_2 (E : ev_E) : List (Option (ev_I ⊕ Nat)) := [ev_oi (ev_aload 33 0), ev_oi (ev_get 36 1 8), ev_no, ev_no, ev_oi (ev_if 0 39 50), ev_no, ev_no, ev_no, ev_no, ev_no, ev_no, ev_no, ev_no, ev_no, ev_no, ev_no]
noncomputable def ev_r2_3 (E : ev_E) : List (Option (ev_I ⊕ Nat)) := [ev_no, ev_no, ev_oi (ev_push 51 (ev_int (-1))), ev_os 1, ev_oi (ev_aload 53 0), ev_oi (ev_get 56 1 5), ev_no, ev_no, ev_oi (ev_get 59 4 4), ev_no, ev_no, ev_oi (ev_iload 60 1), ev_oi (ev_ald 61 0), ev_oi (ev_get 64 7 0), ev_no, ev_no]
noncomputable def ev_r2_4 (E : ev_E) : List (Option (ev_I ⊕ Nat)) := [ev_oi (ev_iload 65 2), ev_oi (ev_call 68 56 2 0 0 0 0 (ev_recv 0) E), ev_no, ev_no, ev_os 1, ev_oi (ev_aload 70 0), ev_oi (ev_get 73 1 9), ev_no, ev_no, ev_oi (ev_if 0 76 87), ev_no, ev_no, ev_no, ev_no, ev_no, ev_no]
noncomputable def ev_r2_5 (E : ev_E) : List (Option (ev_I ⊕ Nat)) := [ev_no, ev_no, ev_no, ev_no, ev_no, ev_no, ev_no, ev_oi (ev_push 88 (ev_int (-1))), ev_os 1, ev_oi (ev_push 90 (ev_int (-1))), ev_os 1, ev_no, ev_no, ev_no, ev_no, ev_no]
/-- 2: TextShell.byteAt(II)I -/
noncomputable def ev_m2 (E : ev_E) : Nat → Option (ev_I ⊕ Nat) := ev_code [ev_r2_0 E, [], ev_r2_2 E, ev_r2_3 E, ev_r2_4 E, ev_r2_5 E]
noncomputable def ev_r3_0 (E : ev_E) : List (Option (ev_I ⊕ Nat)) := [ev_oi (ev_aload 1 0), ev_oi (ev_get 4 1 5), ev_no, ev_no, ev_oi (ev_get 7 4 4), ev_no, ev_no, ev_oi (ev_push 8 (ev_int 1)), ev_oi (ev_ald 9 0), ev_oi (ev_get 12 7 0), ev_no, ev_no, ev_oi (ev_astore 13 1), ev_oi (ev_aload 14 0), ev_oi (ev_get 17 1 5), ev_no]
noncomputable def ev_r3_1 (E : ev_E) : List (Option (ev_I ⊕ Nat)) := [ev_no, ev_oi (ev_get 20 4 4), ev_no, ev_no, ev_oi (ev_push 21 (ev_int 2)), ev_oi (ev_ald 22 0), ev_oi (ev_get 25 7 0), ev_no, ev_no, ev_oi (ev_astore 26 2), ev_oi (ev_aload 27 1), ev_oi (ev_get 30 0 1), ev_no, ev_no, ev_oi (ev_aload 31 2), ev_oi (ev_get 34 0 1)]
noncomputable def ev_r3_2 (E : ev_E) : List (Option (ev_I ⊕ Nat)) := [ev_no, ev_no, ev_oi (ev_bin ev_add 35), ev_oi (ev_istore 36 3), ev_oi (ev_aload 37 1), ev_oi (ev_push 38 (ev_int 0)), ev_oi (ev_put 41 0 1 0), ev_no, ev_no, ev_oi (ev_aload 42 2), ev_oi (ev_push 43 (ev_int 0)), ev_oi (ev_put 46 0 1 0), ev_no, ev_no, ev_oi (ev_iload 47 3), ev_os 1]
/-- 3: TextShell.clear()I -/
noncomputable def ev_m3 (E : ev_E) : Nat → Option (ev_I ⊕ Nat) := ev_code [ev_r3_0 E, ev_r3_1 E, ev_r3_2 E]
noncomputable def ev_r4_0 (E : ev_E) : List (Option (ev_I ⊕ Nat)) := [ev_oi (ev_iload 1 1), ev_oi (ev_tsw 0 [92, 100, 108, 124, 140, 169, 169, 169, 169, 178, 186, 197, 208, 219, 227, 235, 243, 262, 278] 297), ev_no, ev_no, ev_no, ev_no, ev_no, ev_no, ev_no, ev_no, ev_no, ev_no, ev_no, ev_no, ev_no, ev_no]
noncomputable def ev_r4_5 (E : ev_E) : List (Option (ev_I ⊕ Nat)) := [ev_no, ev_no, ev_no, ev_no, ev_no, ev_no, ev_no, ev_no, ev_no, ev_no, ev_no, ev_no, ev_oi (ev_aload 93 0), ev_oi (ev_get 96 1 0), ev_no, ev_no]
noncomputable def ev_r4_6 (E : ev_E) : List (Option (ev_I ⊕ Nat)) := [ev_oi (ev_get 99 0 1), ev_no, ev_no, ev_os 1, ev_oi (ev_aload 101 0), ev_oi (ev_get 104 1 5), ev_no, ev_no, ev_oi (ev_get 107 4 13), ev_no, ev_no, ev_os 1, ev_oi (ev_aload 109 0), ev_oi (ev_get 112 1 5), ev_no, ev_no]
noncomputable def ev_r4_7 (E : ev_E) : List (Option (ev_I ⊕ Nat)) := [ev_oi (ev_get 115 4 4), ev_no, ev_no, ev_oi (ev_push 116 (ev_int 1)), ev_oi (ev_ald 117 0), ev_oi (ev_get 120 7 0), ev_no, ev_no, ev_oi (ev_get 123 0 1), ev_no, ev_no, ev_os 1, ev_oi (ev_aload 125 0), ev_oi (ev_get 128 1 5), ev_no, ev_no]
noncomputable def ev_r4_8 (E : ev_E) : List (Option (ev_I ⊕ Nat)) := [ev_oi (ev_get 131 4 4), ev_no, ev_no, ev_oi (ev_push 132 (ev_int 2)), ev_oi (ev_ald 133 0), ev_oi (ev_get 136 7 0), ev_no, ev_no, ev_oi (ev_get 139 0 1), ev_no, ev_no, ev_os 1, ev_oi (ev_aload 141 0), ev_oi (ev_get 144 1 5), ev_no, ev_no]
noncomputable def ev_r4_9 (E : ev_E) : List (Option (ev_I ⊕ Nat)) := [ev_oi (ev_get 147 4 4), ev_no, ev_no, ev_oi (ev_push 148 (ev_int 0)), ev_oi (ev_ald 149 0), ev_oi (ev_get 152 7 0), ev_no, ev_no, ev_oi (ev_get 155 0 1), ev_no, ev_no, ev_oi (ev_aload 156 0), ev_oi (ev_get 159 1 5), ev_no, ev_no, ev_oi (ev_get 162 4 4)]
noncomputable def ev_r4_10 (E : ev_E) : List (Option (ev_I ⊕ Nat)) := [ev_no, ev_no, ev_oi (ev_push 163 (ev_int 0)), ev_oi (ev_ald 164 0), ev_oi (ev_get 167 7 4), ev_no, ev_no, ev_oi (ev_bin ev_sub 168), ev_os 1, ev_oi (ev_aload 170 0), ev_oi (ev_get 173 1 3), ev_no, ev_no, ev_oi (ev_iload 174 1), ev_oi (ev_call 177 25 2 0 0 0 0 (ev_recv 2) E), ev_no]
noncomputable def ev_r4_11 (E : ev_E) : List (Option (ev_I ⊕ Nat)) := [ev_no, ev_os 1, ev_oi (ev_aload 179 0), ev_oi (ev_get 182 1 3), ev_no, ev_no, ev_oi (ev_get 185 2 11), ev_no, ev_no, ev_os 1, ev_oi (ev_aload 187 0), ev_oi (ev_get 190 1 3), ev_no, ev_no, ev_oi (ev_get 193 2 16), ev_no]
noncomputable def ev_r4_12 (E : ev_E) : List (Option (ev_I ⊕ Nat)) := [ev_no, ev_oi (ev_get 196 8 9), ev_no, ev_no, ev_os 1, ev_oi (ev_aload 198 0), ev_oi (ev_get 201 1 3), ev_no, ev_no, ev_oi (ev_get 204 2 16), ev_no, ev_no, ev_oi (ev_get 207 8 10), ev_no, ev_no, ev_os 1]
noncomputable def ev_r4_13 (E : ev_E) : List (Option (ev_I ⊕ Nat)) := [ev_oi (ev_aload 209 0), ev_oi (ev_get 212 1 3), ev_no, ev_no, ev_oi (ev_get 215 2 16), ev_no, ev_no, ev_oi (ev_get 218 8 11), ev_no, ev_no, ev_os 1, ev_oi (ev_aload 220 0), ev_oi (ev_get 223 1 5), ev_no, ev_no, ev_oi (ev_get 226 4 19)]
noncomputable def ev_r4_14 (E : ev_E) : List (Option (ev_I ⊕ Nat)) := [ev_no, ev_no, ev_os 1, ev_oi (ev_aload 228 0), ev_oi (ev_get 231 1 4), ev_no, ev_no, ev_oi (ev_get 234 3 14), ev_no, ev_no, ev_os 1, ev_oi (ev_aload 236 0), ev_oi (ev_get 239 1 5), ev_no, ev_no, ev_oi (ev_get 242 4 18)]
noncomputable def ev_r4_15 (E : ev_E) : List (Option (ev_I ⊕ Nat)) := [ev_no, ev_no, ev_os 1, ev_oi (ev_aload 244 0), ev_oi (ev_get 247 1 5), ev_no, ev_no, ev_oi (ev_get 250 4 18), ev_no, ev_no, ev_oi (ev_push 253 (ev_int 128000)), ev_no, ev_no, ev_oi (ev_icmp 2 256 260), ev_no, ev_no]
noncomputable def ev_r4_16 (E : ev_E) : List (Option (ev_I ⊕ Nat)) := [ev_no, ev_no, ev_no, ev_no, ev_oi (ev_push 261 (ev_int 0)), ev_os 1, ev_oi (ev_aload 263 0), ev_oi (ev_get 266 1 6), ev_no, ev_no, ev_oi (ev_ifnonnull 269 273), ev_no, ev_no, ev_oi (ev_push 270 (ev_int (-1))), ev_oi (ev_goto 277), ev_no]
noncomputable def ev_r4_17 (E : ev_E) : List (Option (ev_I ⊕ Nat)) := [ev_no, ev_no, ev_no, ev_no, ev_no, ev_os 1, ev_oi (ev_aload 279 0), ev_oi (ev_get 282 1 8), ev_no, ev_no, ev_oi (ev_if 0 285 295), ev_no, ev_no, ev_no, ev_no, ev_no]
noncomputable def ev_r4_18 (E : ev_E) : List (Option (ev_I ⊕ Nat)) := [ev_no, ev_no, ev_no, ev_no, ev_no, ev_no, ev_no, ev_oi (ev_push 296 (ev_int (-1))), ev_os 1, ev_oi (ev_push 298 (ev_int (-1))), ev_os 1, ev_no, ev_no, ev_no, ev_no, ev_no]
/-- 4: TextShell.count(I)I -/
noncomputable def ev_m4 (E : ev_E) : Nat → Option (ev_I ⊕ Nat) := ev_code [ev_r4_0 E, [], [], [], [], ev_r4_5 E, ev_r4_6 E, ev_r4_7 E, ev_r4_8 E, ev_r4_9 E, ev_r4_10 E, ev_r4_11 E, ev_r4_12 E, ev_r4_13 E, ev_r4_14 E, ev_r4_15 E, ev_r4_16 E, ev_r4_17 E, ev_r4_18 E]
noncomputable def ev_r5_0 (E : ev_E) : List (Option (ev_I ⊕ Nat)) := [ev_oi (ev_aload 1 0), ev_oi (ev_get 4 1 0), ev_no, ev_no, ev_oi (ev_get 7 0 1), ev_no, ev_no, ev_oi (ev_push 9 (ev_int 20)), ev_no, ev_oi (ev_bin ev_add 10), ev_oi (ev_push 13 (ev_int 16384)), ev_no, ev_no, ev_oi (ev_icmp 5 16 18), ev_no, ev_no]
noncomputable def ev_r5_1 (E : ev_E) : List (Option (ev_I ⊕ Nat)) := [ev_no, ev_no, ev_oi (ev_aload 19 0), ev_oi (ev_iload 20 1), ev_oi (ev_call 23 6 2 0 0 0 0 (ev_recv 1) E), ev_no, ev_no, ev_oi (ev_aload 24 0), ev_oi (ev_iload 25 2), ev_oi (ev_call 28 6 2 0 0 0 0 (ev_recv 1) E), ev_no, ev_no, ev_oi (ev_aload 29 0), ev_oi (ev_iload 30 3), ev_oi (ev_call 33 6 2 0 0 0 0 (ev_recv 1) E), ev_no]
noncomputable def ev_r5_2 (E : ev_E) : List (Option (ev_I ⊕ Nat)) := [ev_no, ev_oi (ev_aload 34 0), ev_oi (ev_iload 36 4), ev_no, ev_oi (ev_call 39 6 2 0 0 0 0 (ev_recv 1) E), ev_no, ev_no, ev_oi (ev_aload 40 0), ev_oi (ev_iload 42 5), ev_no, ev_oi (ev_call 45 6 2 0 0 0 0 (ev_recv 1) E), ev_no, ev_no, ev_oi (ev_aload 46 0), ev_oi (ev_get 49 1 0), ev_no]
noncomputable def ev_r5_3 (E : ev_E) : List (Option (ev_I ⊕ Nat)) := [ev_no, ev_oi (ev_get 52 0 1), ev_no, ev_no, ev_os 1, ev_no, ev_no, ev_no, ev_no, ev_no, ev_no, ev_no, ev_no, ev_no, ev_no, ev_no]
/-- 5: TextShell.feed(IIIII)I -/
noncomputable def ev_m5 (E : ev_E) : Nat → Option (ev_I ⊕ Nat) := ev_code [ev_r5_0 E, ev_r5_1 E, ev_r5_2 E, ev_r5_3 E]
noncomputable def ev_r6_0 (E : ev_E) : List (Option (ev_I ⊕ Nat)) := [ev_oi (ev_aload 1 0), ev_oi (ev_get 4 1 0), ev_no, ev_no, ev_oi (ev_iload 5 1), ev_oi (ev_push 7 (ev_int 24)), ev_no, ev_oi (ev_ushr 8), ev_oi (ev_call 11 53 2 0 0 0 0 (ev_recv 0) E), ev_no, ev_no, ev_oi (ev_aload 12 0), ev_oi (ev_get 15 1 0), ev_no, ev_no, ev_oi (ev_iload 16 1)]
noncomputable def ev_r6_1 (E : ev_E) : List (Option (ev_I ⊕ Nat)) := [ev_oi (ev_push 18 (ev_int 16)), ev_no, ev_oi (ev_ushr 19), ev_oi (ev_push 22 (ev_int 255)), ev_no, ev_no, ev_oi (ev_bin ev_and 23), ev_oi (ev_call 26 53 2 0 0 0 0 (ev_recv 0) E), ev_no, ev_no, ev_oi (ev_aload 27 0), ev_oi (ev_get 30 1 0), ev_no, ev_no, ev_oi (ev_iload 31 1), ev_oi (ev_push 33 (ev_int 8))]
noncomputable def ev_r6_2 (E : ev_E) : List (Option (ev_I ⊕ Nat)) := [ev_no, ev_oi (ev_ushr 34), ev_oi (ev_push 37 (ev_int 255)), ev_no, ev_no, ev_oi (ev_bin ev_and 38), ev_oi (ev_call 41 53 2 0 0 0 0 (ev_recv 0) E), ev_no, ev_no, ev_oi (ev_aload 42 0), ev_oi (ev_get 45 1 0), ev_no, ev_no, ev_oi (ev_iload 46 1), ev_oi (ev_push 49 (ev_int 255)), ev_no]
noncomputable def ev_r6_3 (E : ev_E) : List (Option (ev_I ⊕ Nat)) := [ev_no, ev_oi (ev_bin ev_and 50), ev_oi (ev_call 53 53 2 0 0 0 0 (ev_recv 0) E), ev_no, ev_no, ev_os 0, ev_no, ev_no, ev_no, ev_no, ev_no, ev_no, ev_no, ev_no, ev_no, ev_no]
/-- 6: TextShell.feedFour(I)V -/
noncomputable def ev_m6 (E : ev_E) : Nat → Option (ev_I ⊕ Nat) := ev_code [ev_r6_0 E, ev_r6_1 E, ev_r6_2 E, ev_r6_3 E]
noncomputable def ev_r7_0 (E : ev_E) : List (Option (ev_I ⊕ Nat)) := [ev_oi (ev_iload 1 1), ev_oi (ev_if 2 4 32), ev_no, ev_no, ev_oi (ev_iload 5 2), ev_oi (ev_if 2 8 32), ev_no, ev_no, ev_oi (ev_iload 9 1), ev_oi (ev_aload 10 0), ev_oi (ev_get 13 1 0), ev_no, ev_no, ev_oi (ev_get 16 0 1), ev_no, ev_no]
noncomputable def ev_r7_1 (E : ev_E) : List (Option (ev_I ⊕ Nat)) := [ev_oi (ev_icmp 4 19 32), ev_no, ev_no, ev_oi (ev_iload 20 2), ev_oi (ev_aload 21 0), ev_oi (ev_get 24 1 0), ev_no, ev_no, ev_oi (ev_get 27 0 1), ev_no, ev_no, ev_oi (ev_iload 28 1), ev_oi (ev_bin ev_sub 29), ev_oi (ev_icmp 5 32 34), ev_no, ev_no]
noncomputable def ev_r7_2 (E : ev_E) : List (Option (ev_I ⊕ Nat)) := [ev_oi (ev_push 33 (ev_int 0)), ev_os 2, ev_oi (ev_push 35 (ev_int 0)), ev_oi (ev_istore 36 3), ev_oi (ev_iload 37 3), ev_oi (ev_iload 38 1), ev_oi (ev_iload 39 2), ev_oi (ev_bin ev_add 40), ev_oi (ev_icmp 3 43 65), ev_no, ev_no, ev_no, ev_no, ev_no, ev_no, ev_no]
noncomputable def ev_r7_4 (E : ev_E) : List (Option (ev_I ⊕ Nat)) := [ev_no, ev_oi (ev_push 66 (ev_int 1)), ev_os 2, ev_no, ev_no, ev_no, ev_no, ev_no, ev_no, ev_no, ev_no, ev_no, ev_no, ev_no, ev_no, ev_no]
/-- 7: TextShell.holds(II)Z -/
noncomputable def ev_m7 (E : ev_E) : Nat → Option (ev_I ⊕ Nat) := ev_code [ev_r7_0 E, ev_r7_1 E, ev_r7_2 E, [], ev_r7_4 E]
noncomputable def ev_r8_0 (E : ev_E) : List (Option (ev_I ⊕ Nat)) := [ev_oi (ev_aload 1 0), ev_oi (ev_iload 2 1), ev_oi (ev_push 3 (ev_int 0)), ev_oi (ev_call 6 7 3 0 0 1 6 (ev_recv 1) E), ev_no, ev_no, ev_oi (ev_if 1 9 19), ev_no, ev_no, ev_no, ev_no, ev_no, ev_oi (ev_dup 13), ev_oi (ev_push 15 (ev_ext 114)), ev_no, ev_no]
noncomputable def ev_r8_1 (E : ev_E) : List (Option (ev_I ⊕ Nat)) := [ev_no, ev_no, ev_no, ev_oi (ev_aload 20 0), ev_oi (ev_get 23 1 5), ev_no, ev_no, ev_oi (ev_get 26 4 4), ev_no, ev_no, ev_oi (ev_push 27 (ev_int 0)), ev_oi (ev_ald 28 0), ev_oi (ev_astore 29 2), ev_oi (ev_aload 30 2), ev_oi (ev_push 31 (ev_int 0)), ev_oi (ev_put 34 7 4 0)]
noncomputable def ev_r8_2 (E : ev_E) : List (Option (ev_I ⊕ Nat)) := [ev_no, ev_no, ev_oi (ev_aload 35 2), ev_oi (ev_get 38 7 0), ev_no, ev_no, ev_oi (ev_push 39 (ev_int 0)), ev_oi (ev_put 42 0 1 0), ev_no, ev_no, ev_oi (ev_aload 43 2), ev_oi (ev_get 46 7 0), ev_no, ev_no, ev_oi (ev_aload 47 0), ev_oi (ev_get 50 1 0)]
noncomputable def ev_r8_3 (E : ev_E) : List (Option (ev_I ⊕ Nat)) := [ev_no, ev_no, ev_oi (ev_push 51 (ev_int 0)), ev_oi (ev_iload 52 1), ev_oi (ev_call 55 54 4 0 0 1 6 (ev_recv 0) E), ev_no, ev_no, ev_oi (ev_aload 56 0), ev_oi (ev_get 59 1 0), ev_no, ev_no, ev_oi (ev_push 60 (ev_int 0)), ev_oi (ev_put 63 0 1 0), ev_no, ev_no, ev_os 0]
/-- 8: TextShell.input(I)V -/
noncomputable def ev_m8 (E : ev_E) : Nat → Option (ev_I ⊕ Nat) := ev_code [ev_r8_0 E, ev_r8_1 E, ev_r8_2 E, ev_r8_3 E]
noncomputable def ev_r9_0 (E : ev_E) : List (Option (ev_I ⊕ Nat)) := [ev_oi (ev_aload 1 0), ev_oi (ev_get 4 1 6), ev_no, ev_no, ev_oi (ev_ifnonnull 7 17), ev_no, ev_no, ev_no, ev_no, ev_no, ev_oi (ev_dup 11), ev_oi (ev_push 13 (ev_ext 116)), ev_no, ev_no, ev_no, ev_no]
noncomputable def ev_r9_1 (E : ev_E) : List (Option (ev_I ⊕ Nat)) := [ev_no, ev_no, ev_no, ev_no, ev_no, ev_no, ev_no, ev_no, ev_no, ev_no, ev_no, ev_no, ev_no, ev_no, ev_no, ev_no]
/-- 9: TextShell.print()I -/
noncomputable def ev_m9 (E : ev_E) : Nat → Option (ev_I ⊕ Nat) := ev_code [ev_r9_0 E, ev_r9_1 E]
noncomputable def ev_r10_0 (E : ev_E) : List (Option (ev_I ⊕ Nat)) := [ev_oi (ev_iload 1 1), ev_oi (ev_if 2 4 18), ev_no, ev_no, ev_oi (ev_iload 5 1), ev_oi (ev_push 6 (ev_int 3)), ev_oi (ev_icmp 4 9 18), ev_no, ev_no, ev_oi (ev_aload 10 0), ev_oi (ev_iload 11 2), ev_oi (ev_iload 12 3), ev_oi (ev_call 15 7 3 0 0 4 132 (ev_recv 1) E), ev_no, ev_no, ev_oi (ev_if 1 18 28)]
noncomputable def ev_r10_1 (E : ev_E) : List (Option (ev_I ⊕ Nat)) := [ev_no, ev_no, ev_no, ev_no, ev_no, ev_oi (ev_dup 22), ev_oi (ev_push 24 (ev_ext 118)), ev_no, ev_no, ev_no, ev_no, ev_no, ev_oi (ev_aload 29 0), ev_oi (ev_get 32 1 0), ev_no, ev_no]
noncomputable def ev_r10_2 (E : ev_E) : List (Option (ev_I ⊕ Nat)) := [ev_oi (ev_push 33 (ev_int 0)), ev_oi (ev_iload 34 2), ev_oi (ev_call 37 59 3 2 66 4 132 (ev_recv 0) E), ev_no, ev_no, ev_oi (ev_astore 39 4), ev_no, ev_oi (ev_aload 40 0), ev_oi (ev_get 43 1 0), ev_no, ev_no, ev_oi (ev_iload 44 2), ev_oi (ev_iload 45 2), ev_oi (ev_iload 46 3), ev_oi (ev_bin ev_add 47), ev_oi (ev_call 50 59 3 2 66 4 132 (ev_recv 0) E)]
noncomputable def ev_r10_3 (E : ev_E) : List (Option (ev_I ⊕ Nat)) := [ev_no, ev_no, ev_oi (ev_astore 52 5), ev_no, ev_oi (ev_aload 53 0), ev_oi (ev_get 56 1 0), ev_no, ev_no, ev_oi (ev_push 57 (ev_int 0)), ev_oi (ev_put 60 0 1 0), ev_no, ev_no, ev_oi (ev_iload 61 1), ev_oi (ev_if 1 64 99), ev_no, ev_no]
noncomputable def ev_r10_4 (E : ev_E) : List (Option (ev_I ⊕ Nat)) := [ev_oi (ev_aload 66 4), ev_no, ev_oi (ev_call 69 57 1 0 0 4 132 (ev_recv 0) E), ev_no, ev_no, ev_oi (ev_if 0 72 97), ev_no, ev_no, ev_no, ev_no, ev_no, ev_no, ev_no, ev_no, ev_no, ev_no]
noncomputable def ev_r10_6 (E : ev_E) : List (Option (ev_I ⊕ Nat)) := [ev_no, ev_oi (ev_push 98 (ev_int 0)), ev_os 2, ev_oi (ev_iload 100 1), ev_oi (ev_push 101 (ev_int 2)), ev_oi (ev_icmp 1 104 113), ev_no, ev_no, ev_oi (ev_aload 105 0), ev_oi (ev_aload 107 4), ev_no, ev_oi (ev_aload 109 5), ev_no, ev_oi (ev_call 112 11 3 0 0 4 132 (ev_recv 1) E), ev_no, ev_no]
noncomputable def ev_r10_7 (E : ev_E) : List (Option (ev_I ⊕ Nat)) := [ev_os 2, ev_oi (ev_aload 115 4), ev_no, ev_oi (ev_push 116 (ev_int 0)), ev_oi (ev_call 119 56 2 0 0 4 132 (ev_recv 0) E), ev_no, ev_no, ev_oi (ev_push 121 (ev_int 47)), ev_no, ev_oi (ev_icmp 0 124 126), ev_no, ev_no, ev_oi (ev_push 125 (ev_int 0)), ev_os 2, ev_no, ev_no]
/-- 10: TextShell.put(III)Z -/
noncomputable def ev_m10 (E : ev_E) : Nat → Option (ev_I ⊕ Nat) := ev_code [ev_r10_0 E, ev_r10_1 E, ev_r10_2 E, ev_r10_3 E, ev_r10_4 E, [], ev_r10_6 E, ev_r10_7 E]
noncomputable def ev_r11_0 (E : ev_E) : List (Option (ev_I ⊕ Nat)) := [ev_oi (ev_aload 1 1), ev_oi (ev_call 4 57 1 0 0 0 0 (ev_recv 0) E), ev_no, ev_no, ev_oi (ev_if 0 7 14), ev_no, ev_no, ev_no, ev_no, ev_no, ev_no, ev_no, ev_no, ev_no, ev_oi (ev_push 15 (ev_int 0)), ev_os 2]
/-- 11: TextShell.putAlias(LTextShell$Row;LTextShell$Row;)Z -/
noncomputable def ev_m11 (E : ev_E) : Nat → Option (ev_I ⊕ Nat) := ev_code [ev_r11_0 E]
noncomputable def ev_r12_0 (E : ev_E) : List (Option (ev_I ⊕ Nat)) := [ev_oi (ev_aload 1 0), ev_oi (ev_iload 2 1), ev_oi (ev_push 3 (ev_int 0)), ev_oi (ev_call 6 7 3 0 0 8 190 (ev_recv 1) E), ev_no, ev_no, ev_oi (ev_if 1 9 19), ev_no, ev_no, ev_no, ev_no, ev_no, ev_oi (ev_dup 13), ev_oi (ev_push 15 (ev_ext 114)), ev_no, ev_no]
noncomputable def ev_r12_1 (E : ev_E) : List (Option (ev_I ⊕ Nat)) := [ev_no, ev_no, ev_no, ev_oi (ev_aload 20 0), ev_oi (ev_get 23 1 0), ev_no, ev_no, ev_oi (ev_push 24 (ev_int 0)), ev_oi (ev_iload 25 1), ev_oi (ev_call 28 59 3 2 66 8 190 (ev_recv 0) E), ev_no, ev_no, ev_oi (ev_astore 29 2), ev_oi (ev_aload 30 0), ev_oi (ev_get 33 1 0), ev_no]
noncomputable def ev_r12_2 (E : ev_E) : List (Option (ev_I ⊕ Nat)) := [ev_no, ev_oi (ev_push 34 (ev_int 0)), ev_oi (ev_put 37 0 1 0), ev_no, ev_no, ev_oi (ev_aload 38 0), ev_oi (ev_push 39 ev_null), ev_oi (ev_put 42 1 6 5), ev_no, ev_no, ev_oi (ev_aload 43 0), ev_oi (ev_push 44 (ev_int 0)), ev_oi (ev_put 47 1 8 1), ev_no, ev_no, ev_oi (ev_aload 48 0)]
noncomputable def ev_r12_3 (E : ev_E) : List (Option (ev_I ⊕ Nat)) := [ev_oi (ev_get 51 1 4), ev_no, ev_no, ev_oi (ev_aload 52 2), ev_oi (ev_call 55 48 2 6 124 8 190 (ev_recv 3) E), ev_no, ev_no, ev_oi (ev_if 1 58 77), ev_no, ev_no, ev_no, ev_no, ev_no, ev_no, ev_no, ev_no]
noncomputable def ev_r12_4 (E : ev_E) : List (Option (ev_I ⊕ Nat)) := [ev_no, ev_no, ev_no, ev_no, ev_no, ev_no, ev_no, ev_no, ev_no, ev_no, ev_no, ev_no, ev_no, ev_oi (ev_aload 78 0), ev_oi (ev_aload 79 0), ev_oi (ev_get 82 1 4)]
noncomputable def ev_r12_5 (E : ev_E) : List (Option (ev_I ⊕ Nat)) := [ev_no, ev_no, ev_oi (ev_get 85 3 21), ev_no, ev_no, ev_oi (ev_put 88 1 6 5), ev_no, ev_no, ev_oi (ev_aload 89 0), ev_oi (ev_aload 90 0), ev_oi (ev_get 93 1 4), ev_no, ev_no, ev_oi (ev_get 96 3 13), ev_no, ev_no]
noncomputable def ev_r12_6 (E : ev_E) : List (Option (ev_I ⊕ Nat)) := [ev_oi (ev_put 99 1 7 0), ev_no, ev_no, ev_oi (ev_push 100 (ev_int 0)), ev_os 1, ev_no, ev_no, ev_no, ev_no, ev_no, ev_no, ev_no, ev_no, ev_no, ev_no, ev_no]
/-- 12: TextShell.read(I)I -/
noncomputable def ev_m12 (E : ev_E) : Nat → Option (ev_I ⊕ Nat) := ev_code [ev_r12_0 E, ev_r12_1 E, ev_r12_2 E, ev_r12_3 E, ev_r12_4 E, ev_r12_5 E, ev_r12_6 E]
noncomputable def ev_r13_0 (E : ev_E) : List (Option (ev_I ⊕ Nat)) := [ev_oi (ev_aload 1 0), ev_oi (ev_call 4 3 1 0 0 0 0 (ev_recv 1) E), ev_no, ev_no, ev_oi (ev_pop 5), ev_oi (ev_aload 6 0), ev_oi (ev_push 7 ev_null), ev_oi (ev_put 10 1 6 5), ev_no, ev_no, ev_oi (ev_aload 11 0), ev_oi (ev_push 12 (ev_int 0)), ev_oi (ev_put 15 1 8 1), ev_no, ev_no, ev_oi (ev_aload 16 0)]
noncomputable def ev_r13_1 (E : ev_E) : List (Option (ev_I ⊕ Nat)) := [ev_oi (ev_push 17 (ev_int 0)), ev_oi (ev_put 20 1 9 1), ev_no, ev_no, ev_oi (ev_aload 21 0), ev_oi (ev_get 24 1 5), ev_no, ev_no, ev_oi (ev_get 27 4 4), ev_no, ev_no, ev_oi (ev_push 28 (ev_int 0)), ev_oi (ev_ald 29 0), ev_oi (ev_get 32 7 0), ev_no, ev_no]
noncomputable def ev_r13_2 (E : ev_E) : List (Option (ev_I ⊕ Nat)) := [ev_oi (ev_push 33 (ev_int 0)), ev_oi (ev_put 36 0 1 0), ev_no, ev_no, ev_oi (ev_aload 37 0), ev_oi (ev_get 40 1 5), ev_no, ev_no, ev_oi (ev_get 43 4 4), ev_no, ev_no, ev_oi (ev_push 44 (ev_int 0)), ev_oi (ev_ald 45 0), ev_oi (ev_push 46 (ev_int 0)), ev_oi (ev_put 49 7 4 0), ev_no]
noncomputable def ev_r13_3 (E : ev_E) : List (Option (ev_I ⊕ Nat)) := [ev_no, ev_oi (ev_aload 50 0), ev_oi (ev_get 53 1 5), ev_no, ev_no, ev_oi (ev_push 54 (ev_int 0)), ev_oi (ev_put 57 4 13 0), ev_no, ev_no, ev_oi (ev_aload 58 0), ev_oi (ev_get 61 1 5), ev_no, ev_no, ev_oi (ev_push 62 (ev_int 0)), ev_oi (ev_put 65 4 19 0), ev_no]
noncomputable def ev_r13_4 (E : ev_E) : List (Option (ev_I ⊕ Nat)) := [ev_no, ev_oi (ev_aload 66 0), ev_oi (ev_get 69 1 3), ev_no, ev_no, ev_oi (ev_call 72 24 1 0 0 0 0 (ev_recv 2) E), ev_no, ev_no, ev_os 0, ev_no, ev_no, ev_no, ev_no, ev_no, ev_no, ev_no]
/-- 13: TextShell.reset()V -/
noncomputable def ev_m13 (E : ev_E) : Nat → Option (ev_I ⊕ Nat) := ev_code [ev_r13_0 E, ev_r13_1 E, ev_r13_2 E, ev_r13_3 E, ev_r13_4 E]
noncomputable def ev_r14_0 (E : ev_E) : List (Option (ev_I ⊕ Nat)) := [ev_oi (ev_aload 1 0), ev_oi (ev_get 4 1 6), ev_no, ev_no, ev_oi (ev_ifnonnull 7 17), ev_no, ev_no, ev_no, ev_no, ev_no, ev_oi (ev_dup 11), ev_oi (ev_push 13 (ev_ext 116)), ev_no, ev_no, ev_no, ev_no]
noncomputable def ev_r14_1 (E : ev_E) : List (Option (ev_I ⊕ Nat)) := [ev_no, ev_no, ev_no, ev_no, ev_no, ev_no, ev_no, ev_no, ev_no, ev_no, ev_no, ev_no, ev_no, ev_no, ev_no, ev_no]
/-- 14: TextShell.run(I)I -/
noncomputable def ev_m14 (E : ev_E) : Nat → Option (ev_I ⊕ Nat) := ev_code [ev_r14_0 E, ev_r14_1 E]
noncomputable def ev_r15_0 (E : ev_E) : List (Option (ev_I ⊕ Nat)) := [ev_oi (ev_aload 1 2), ev_oi (ev_push 2 (ev_int 0)), ev_oi (ev_call 5 56 2 0 0 0 0 (ev_recv 0) E), ev_no, ev_no, ev_oi (ev_push 7 (ev_int 47)), ev_no, ev_oi (ev_icmp 1 10 24), ev_no, ev_no, ev_no, ev_no, ev_no, ev_no, ev_no, ev_no]
noncomputable def ev_r15_1 (E : ev_E) : List (Option (ev_I ⊕ Nat)) := [ev_no, ev_no, ev_no, ev_no, ev_no, ev_no, ev_no, ev_no, ev_oi (ev_push 25 ev_null), ev_oi (ev_astore 26 3), ev_oi (ev_aload 27 3), ev_oi (ev_ifnull 30 47), ev_no, ev_no, ev_no, ev_no]
noncomputable def ev_r15_2 (E : ev_E) : List (Option (ev_I ⊕ Nat)) := [ev_no, ev_no, ev_no, ev_no, ev_no, ev_no, ev_no, ev_no, ev_no, ev_no, ev_no, ev_no, ev_no, ev_no, ev_no, ev_oi (ev_push 48 (ev_int 0))]
noncomputable def ev_r15_3 (E : ev_E) : List (Option (ev_I ⊕ Nat)) := [ev_os 2, ev_no, ev_no, ev_no, ev_no, ev_no, ev_no, ev_no, ev_no, ev_no, ev_no, ev_no, ev_no, ev_no, ev_no, ev_no]
/-- 15: TextShell.tellFile(ILTextShell$Row;)Z -/
noncomputable def ev_m15 (E : ev_E) : Nat → Option (ev_I ⊕ Nat) := ev_code [ev_r15_0 E, ev_r15_1 E, ev_r15_2 E, ev_r15_3 E]
noncomputable def ev_r16_0 (E : ev_E) : List (Option (ev_I ⊕ Nat)) := [ev_oi (ev_aload 1 0), ev_oi (ev_get 4 1 3), ev_no, ev_no, ev_oi (ev_aload 5 2), ev_oi (ev_call 8 23 2 0 0 0 0 (ev_recv 2) E), ev_no, ev_no, ev_oi (ev_astore 9 3), ev_oi (ev_aload 10 3), ev_oi (ev_ifnonnull 13 15), ev_no, ev_no, ev_oi (ev_push 14 (ev_int 0)), ev_os 2, ev_no]
/-- 16: TextShell.tellName(ILTextShell$Row;)Z -/
noncomputable def ev_m16 (E : ev_E) : Nat → Option (ev_I ⊕ Nat) := ev_code [ev_r16_0 E]
noncomputable def ev_r17_0 (E : ev_E) : List (Option (ev_I ⊕ Nat)) := [ev_oi (ev_aload 1 0), ev_oi (ev_objinit 4), ev_no, ev_no, ev_oi (ev_aload 5 0), ev_oi (ev_push 8 (ev_int 256)), ev_no, ev_no, ev_oi (ev_newa 10 1 0 15 7183), ev_no, ev_oi (ev_put 13 5 4 5), ev_no, ev_no, ev_oi (ev_aload 14 0), ev_oi (ev_push 16 (ev_int 64)), ev_no]
noncomputable def ev_r17_1 (E : ev_E) : List (Option (ev_I ⊕ Nat)) := [ev_oi (ev_newa 19 2 2 15 7183), ev_no, ev_no, ev_oi (ev_put 22 5 7 5), ev_no, ev_no, ev_oi (ev_aload 23 0), ev_oi (ev_push 26 (ev_int 256)), ev_no, ev_no, ev_oi (ev_newa 28 1 0 15 7183), ev_no, ev_oi (ev_put 31 5 9 5), ev_no, ev_no, ev_oi (ev_aload 32 0)]
noncomputable def ev_r17_2 (E : ev_E) : List (Option (ev_I ⊕ Nat)) := [ev_oi (ev_new 35 0 2 15 7183 ev_f0), ev_no, ev_no, ev_oi (ev_dup 36), ev_oi (ev_push 38 (ev_int 32)), ev_no, ev_oi (ev_call 41 52 2 1 64 15 7183 (ev_recv 0) E), ev_no, ev_no, ev_oi (ev_put 44 5 11 5), ev_no, ev_no, ev_oi (ev_aload 45 0), ev_oi (ev_push 47 (ev_int 64)), ev_no, ev_oi (ev_newa 49 1 0 15 7183)]
noncomputable def ev_r17_3 (E : ev_E) : List (Option (ev_I ⊕ Nat)) := [ev_no, ev_oi (ev_put 52 5 12 5), ev_no, ev_no, ev_oi (ev_aload 53 0), ev_oi (ev_push 55 (ev_int 64)), ev_no, ev_oi (ev_newa 57 1 0 15 7183), ev_no, ev_oi (ev_put 60 5 13 5), ev_no, ev_no, ev_oi (ev_aload 61 0), ev_oi (ev_push 63 (ev_int 64)), ev_no, ev_oi (ev_newa 65 1 0 15 7183)]
noncomputable def ev_r17_4 (E : ev_E) : List (Option (ev_I ⊕ Nat)) := [ev_no, ev_oi (ev_put 68 5 15 5), ev_no, ev_no, ev_oi (ev_aload 69 0), ev_oi (ev_push 71 (ev_int 64)), ev_no, ev_oi (ev_newa 74 2 2 15 7183), ev_no, ev_no, ev_oi (ev_put 77 5 18 5), ev_no, ev_no, ev_oi (ev_aload 78 0), ev_oi (ev_push 80 (ev_int 64)), ev_no]
noncomputable def ev_r17_5 (E : ev_E) : List (Option (ev_I ⊕ Nat)) := [ev_oi (ev_newa 83 3 2 15 7183), ev_no, ev_no, ev_oi (ev_put 86 5 19 5), ev_no, ev_no, ev_oi (ev_aload 87 0), ev_oi (ev_aload 88 1), ev_oi (ev_put 91 5 0 5), ev_no, ev_no, ev_oi (ev_aload 92 0), ev_oi (ev_aload 93 2), ev_oi (ev_put 96 5 1 5), ev_no, ev_no]
noncomputable def ev_r17_6 (E : ev_E) : List (Option (ev_I ⊕ Nat)) := [ev_oi (ev_aload 97 0), ev_oi (ev_aload 98 3), ev_oi (ev_put 101 5 2 5), ev_no, ev_no, ev_oi (ev_aload 102 0), ev_oi (ev_new 105 9 11 15 7183 ev_f9), ev_no, ev_no, ev_oi (ev_dup 106), ev_oi (ev_aload 107 1), ev_oi (ev_call 110 64 2 4 6210 15 7183 (ev_recv 9) E), ev_no, ev_no, ev_oi (ev_put 113 5 3 5), ev_no]
noncomputable def ev_r17_7 (E : ev_E) : List (Option (ev_I ⊕ Nat)) := [ev_no, ev_oi (ev_aload 114 0), ev_oi (ev_get 117 5 9), ev_no, ev_no, ev_oi (ev_push 119 (ev_int 32)), ev_no, ev_oi (ev_push 120 (ev_int 1)), ev_oi (ev_ast 121 1 0), ev_oi (ev_aload 122 0), ev_oi (ev_get 125 5 9), ev_no, ev_no, ev_oi (ev_push 127 (ev_int 9)), ev_no, ev_oi (ev_push 128 (ev_int 1))]
noncomputable def ev_r17_8 (E : ev_E) : List (Option (ev_I ⊕ Nat)) := [ev_oi (ev_ast 129 1 0), ev_oi (ev_aload 130 0), ev_oi (ev_get 133 5 9), ev_no, ev_no, ev_oi (ev_push 135 (ev_int 10)), ev_no, ev_oi (ev_push 136 (ev_int 1)), ev_oi (ev_ast 137 1 0), ev_os 0, ev_no, ev_no, ev_no, ev_no, ev_no, ev_no]
/-- 17: TextShell$Expander.<init>(LTextShell$Memory;LTextShell$Reader;LTextShell$Shell;)V -/
noncomputable def ev_m17 (E : ev_E) : Nat → Option (ev_I ⊕ Nat) := ev_code [ev_r17_0 E, ev_r17_1 E, ev_r17_2 E, ev_r17_3 E, ev_r17_4 E, ev_r17_5 E, ev_r17_6 E, ev_r17_7 E, ev_r17_8 E]
noncomputable def ev_r18_0 (E : ev_E) : List (Option (ev_I ⊕ Nat)) := [ev_oi (ev_aload 1 0), ev_oi (ev_objinit 4), ev_no, ev_no, ev_os 0, ev_no, ev_no, ev_no, ev_no, ev_no, ev_no, ev_no, ev_no, ev_no, ev_no, ev_no]
/-- 18: TextShell$Frame.<init>()V -/
noncomputable def ev_m18 (E : ev_E) : Nat → Option (ev_I ⊕ Nat) := ev_code [ev_r18_0 E]
noncomputable def ev_r19_0 (E : ev_E) : List (Option (ev_I ⊕ Nat)) := [ev_oi (ev_aload 1 0), ev_oi (ev_get 4 10 4), ev_no, ev_no, ev_oi (ev_iload 5 1), ev_oi (ev_bin ev_and 6), ev_oi (ev_if 0 9 13), ev_no, ev_no, ev_no, ev_no, ev_no, ev_no, ev_oi (ev_push 14 (ev_int 0)), ev_os 2, ev_no]
/-- 19: TextShell$Frame.has(I)Z -/
noncomputable def ev_m19 (E : ev_E) : Nat → Option (ev_I ⊕ Nat) := ev_code [ev_r19_0 E]
noncomputable def ev_r20_0 (E : ev_E) : List (Option (ev_I ⊕ Nat)) := [ev_oi (ev_aload 1 0), ev_oi (ev_iload 2 1), ev_oi (ev_put 5 10 0 0), ev_no, ev_no, ev_oi (ev_aload 6 0), ev_oi (ev_iload 7 2), ev_oi (ev_put 10 10 1 0), ev_no, ev_no, ev_oi (ev_aload 11 0), ev_oi (ev_aload 12 3), ev_oi (ev_put 15 10 6 5), ev_no, ev_no, ev_oi (ev_aload 16 0)]
noncomputable def ev_r20_1 (E : ev_E) : List (Option (ev_I ⊕ Nat)) := [ev_oi (ev_push 17 (ev_int 0)), ev_oi (ev_put 20 10 2 0), ev_no, ev_no, ev_oi (ev_aload 21 0), ev_oi (ev_push 22 (ev_int 0)), ev_oi (ev_put 25 10 3 0), ev_no, ev_no, ev_oi (ev_aload 26 0), ev_oi (ev_push 27 (ev_int 0)), ev_oi (ev_put 30 10 4 0), ev_no, ev_no, ev_oi (ev_aload 31 0), ev_oi (ev_push 32 ev_null)]
noncomputable def ev_r20_2 (E : ev_E) : List (Option (ev_I ⊕ Nat)) := [ev_oi (ev_put 35 10 5 5), ev_no, ev_no, ev_oi (ev_aload 36 0), ev_oi (ev_push 37 ev_null), ev_oi (ev_put 40 10 7 5), ev_no, ev_no, ev_oi (ev_aload 41 0), ev_oi (ev_push 42 ev_null), ev_oi (ev_put 45 10 8 5), ev_no, ev_no, ev_oi (ev_aload 46 0), ev_oi (ev_push 47 ev_null), ev_oi (ev_put 50 10 9 5)]
noncomputable def ev_r20_3 (E : ev_E) : List (Option (ev_I ⊕ Nat)) := [ev_no, ev_no, ev_oi (ev_aload 51 0), ev_oi (ev_push 52 ev_null), ev_oi (ev_put 55 10 10 5), ev_no, ev_no, ev_oi (ev_aload 56 0), ev_oi (ev_push 57 ev_null), ev_oi (ev_put 60 10 11 5), ev_no, ev_no, ev_oi (ev_aload 61 0), ev_oi (ev_push 62 ev_null), ev_oi (ev_put 65 10 12 5), ev_no]
noncomputable def ev_r20_4 (E : ev_E) : List (Option (ev_I ⊕ Nat)) := [ev_no, ev_oi (ev_aload 66 0), ev_oi (ev_push 67 ev_null), ev_oi (ev_put 70 10 13 5), ev_no, ev_no, ev_oi (ev_aload 71 0), ev_oi (ev_push 72 (ev_int (-1))), ev_oi (ev_put 75 10 14 0), ev_no, ev_no, ev_oi (ev_aload 76 0), ev_oi (ev_push 77 (ev_int 0)), ev_oi (ev_put 80 10 15 0), ev_no, ev_no]
noncomputable def ev_r20_5 (E : ev_E) : List (Option (ev_I ⊕ Nat)) := [ev_oi (ev_aload 81 0), ev_oi (ev_push 82 (ev_int 0)), ev_oi (ev_put 85 10 16 0), ev_no, ev_no, ev_oi (ev_aload 86 0), ev_oi (ev_push 87 (ev_int 0)), ev_oi (ev_put 90 10 17 0), ev_no, ev_no, ev_oi (ev_aload 91 0), ev_oi (ev_push 92 (ev_int 0)), ev_oi (ev_put 95 10 18 0), ev_no, ev_no, ev_os 0]
/-- 20: TextShell$Frame.set(IILTextShell$Frame;)V -/
noncomputable def ev_m20 (E : ev_E) : Nat → Option (ev_I ⊕ Nat) := ev_code [ev_r20_0 E, ev_r20_1 E, ev_r20_2 E, ev_r20_3 E, ev_r20_4 E, ev_r20_5 E]
noncomputable def ev_r21_0 (E : ev_E) : List (Option (ev_I ⊕ Nat)) := [ev_oi (ev_aload 1 0), ev_oi (ev_objinit 4), ev_no, ev_no, ev_oi (ev_aload 5 0), ev_oi (ev_push 8 (ev_int 256)), ev_no, ev_no, ev_oi (ev_newa 11 4 2 296 9230), ev_no, ev_no, ev_oi (ev_put 14 2 0 5), ev_no, ev_no, ev_oi (ev_aload 15 0), ev_oi (ev_push 18 (ev_int 128))]
noncomputable def ev_r21_1 (E : ev_E) : List (Option (ev_I ⊕ Nat)) := [ev_no, ev_no, ev_oi (ev_newa 21 4 2 296 9230), ev_no, ev_no, ev_oi (ev_put 24 2 2 5), ev_no, ev_no, ev_oi (ev_aload 25 0), ev_oi (ev_push 27 (ev_int 16)), ev_no, ev_oi (ev_newa 30 4 2 296 9230), ev_no, ev_no, ev_oi (ev_put 33 2 4 5), ev_no]
noncomputable def ev_r21_2 (E : ev_E) : List (Option (ev_I ⊕ Nat)) := [ev_no, ev_oi (ev_aload 34 0), ev_oi (ev_push 37 (ev_int 512)), ev_no, ev_no, ev_oi (ev_newa 39 1 0 296 9230), ev_no, ev_oi (ev_put 42 2 7 5), ev_no, ev_no, ev_oi (ev_aload 43 0), ev_oi (ev_push 45 (ev_int 64)), ev_no, ev_oi (ev_newa 48 3 2 296 9230), ev_no, ev_no]
noncomputable def ev_r21_3 (E : ev_E) : List (Option (ev_I ⊕ Nat)) := [ev_oi (ev_put 51 2 8 5), ev_no, ev_no, ev_oi (ev_aload 52 0), ev_oi (ev_push 54 (ev_int 16)), ev_no, ev_oi (ev_newa 57 2 2 296 9230), ev_no, ev_no, ev_oi (ev_put 60 2 9 5), ev_no, ev_no, ev_oi (ev_aload 61 0), ev_oi (ev_new 64 8 12 296 9230 ev_f8), ev_no, ev_no]
noncomputable def ev_r21_4 (E : ev_E) : List (Option (ev_I ⊕ Nat)) := [ev_oi (ev_dup 65), ev_oi (ev_new 68 0 2 296 9230 ev_f0), ev_no, ev_no, ev_oi (ev_dup 69), ev_oi (ev_push 70 (ev_int 1)), ev_oi (ev_call 73 52 2 1 64 296 9230 (ev_recv 0) E), ev_no, ev_no, ev_oi (ev_push 74 ev_null), ev_oi (ev_push 75 (ev_int 1)), ev_oi (ev_call 78 32 4 0 0 296 9230 (ev_recv 8) E), ev_no, ev_no, ev_oi (ev_put 81 2 16 5), ev_no]
noncomputable def ev_r21_5 (E : ev_E) : List (Option (ev_I ⊕ Nat)) := [ev_no, ev_oi (ev_aload 82 0), ev_oi (ev_aload 83 0), ev_oi (ev_get 86 2 16), ev_no, ev_no, ev_oi (ev_put 89 2 17 5), ev_no, ev_no, ev_oi (ev_aload 90 0), ev_oi (ev_new 93 0 2 296 9230 ev_f0), ev_no, ev_no, ev_oi (ev_dup 94), ev_oi (ev_push 95 (ev_int 0)), ev_oi (ev_call 98 52 2 1 64 296 9230 (ev_recv 0) E)]
noncomputable def ev_r21_6 (E : ev_E) : List (Option (ev_I ⊕ Nat)) := [ev_no, ev_no, ev_oi (ev_put 101 2 20 5), ev_no, ev_no, ev_oi (ev_aload 102 0), ev_oi (ev_aload 103 0), ev_oi (ev_push 105 (ev_ext 0)), ev_no, ev_oi (ev_call 108 28 1 2 66 296 9230 ev_rc1 E), ev_no, ev_no, ev_oi (ev_call 111 26 2 3 76 296 9230 (ev_recv 2) E), ev_no, ev_no, ev_oi (ev_put 114 2 18 5)]
noncomputable def ev_r21_7 (E : ev_E) : List (Option (ev_I ⊕ Nat)) := [ev_no, ev_no, ev_oi (ev_aload 115 0), ev_oi (ev_aload 116 0), ev_oi (ev_push 118 (ev_ext 2)), ev_no, ev_oi (ev_call 121 28 1 2 66 296 9230 ev_rc1 E), ev_no, ev_no, ev_oi (ev_call 124 26 2 3 76 296 9230 (ev_recv 2) E), ev_no, ev_no, ev_oi (ev_put 127 2 19 5), ev_no, ev_no, ev_oi (ev_aload 128 0)]
noncomputable def ev_r21_8 (E : ev_E) : List (Option (ev_I ⊕ Nat)) := [ev_oi (ev_call 131 30 1 80 2272 296 9230 (ev_recv 2) E), ev_no, ev_no, ev_oi (ev_aload 132 0), ev_oi (ev_call 135 29 1 195 5538 296 9230 (ev_recv 2) E), ev_no, ev_no, ev_os 0, ev_no, ev_no, ev_no, ev_no, ev_no, ev_no, ev_no, ev_no]
/-- 21: TextShell$Memory.<init>()V -/
noncomputable def ev_m21 (E : ev_E) : Nat → Option (ev_I ⊕ Nat) := ev_code [ev_r21_0 E, ev_r21_1 E, ev_r21_2 E, ev_r21_3 E, ev_r21_4 E, ev_r21_5 E, ev_r21_6 E, ev_r21_7 E, ev_r21_8 E]
noncomputable def ev_r22_0 (E : ev_E) : List (Option (ev_I ⊕ Nat)) := [ev_oi (ev_aload 1 0), ev_oi (ev_aload 2 1), ev_oi (ev_call 5 28 1 2 66 5 142 ev_rc1 E), ev_no, ev_no, ev_oi (ev_call 8 26 2 3 76 5 142 (ev_recv 2) E), ev_no, ev_no, ev_oi (ev_iload 9 2), ev_oi (ev_put 12 11 8 0), ev_no, ev_no, ev_os 0, ev_no, ev_no, ev_no]
/-- 22: TextShell$Memory.command(Ljava/lang/String;I)V -/
noncomputable def ev_m22 (E : ev_E) : Nat → Option (ev_I ⊕ Nat) := ev_code [ev_r22_0 E]
noncomputable def ev_r23_0 (E : ev_E) : List (Option (ev_I ⊕ Nat)) := [ev_oi (ev_push 1 (ev_int 0)), ev_oi (ev_istore 2 2), ev_oi (ev_push 3 (ev_int 0)), ev_oi (ev_istore 4 3), ev_oi (ev_iload 5 3), ev_oi (ev_aload 6 1), ev_oi (ev_get 9 0 1), ev_no, ev_no, ev_oi (ev_icmp 3 12 39), ev_no, ev_no, ev_oi (ev_iload 13 3), ev_oi (ev_aload 14 1), ev_oi (ev_get 17 0 0), ev_no]
noncomputable def ev_r23_1 (E : ev_E) : List (Option (ev_I ⊕ Nat)) := [ev_no, ev_oi (ev_alen 18), ev_oi (ev_icmp 3 21 39), ev_no, ev_no, ev_oi (ev_iload 22 2), ev_oi (ev_push 24 (ev_int 31)), ev_no, ev_oi (ev_bin ev_mul 25), ev_oi (ev_aload 26 1), ev_oi (ev_get 29 0 0), ev_no, ev_no, ev_oi (ev_iload 30 3), ev_oi (ev_ald 31 5), ev_oi (ev_bin ev_add 32)]
noncomputable def ev_r23_2 (E : ev_E) : List (Option (ev_I ⊕ Nat)) := [ev_oi (ev_istore 33 2), ev_oi (ev_iinc 36 3 1), ev_no, ev_no, ev_oi (ev_goto 4), ev_no, ev_no, ev_oi (ev_aload 40 0), ev_oi (ev_iload 41 2), ev_oi (ev_push 44 (ev_int 255)), ev_no, ev_no, ev_oi (ev_bin ev_and 45), ev_oi (ev_put 48 2 1 0), ev_no, ev_no]
noncomputable def ev_r23_3 (E : ev_E) : List (Option (ev_I ⊕ Nat)) := [ev_oi (ev_aload 49 0), ev_oi (ev_get 52 2 0), ev_no, ev_no, ev_oi (ev_aload 53 0), ev_oi (ev_get 56 2 1), ev_no, ev_no, ev_oi (ev_ald 57 4), ev_oi (ev_astore 58 3), ev_oi (ev_aload 59 3), ev_oi (ev_ifnull 62 83), ev_no, ev_no, ev_oi (ev_aload 63 3), ev_oi (ev_get 66 11 0)]
noncomputable def ev_r23_4 (E : ev_E) : List (Option (ev_I ⊕ Nat)) := [ev_no, ev_no, ev_oi (ev_aload 67 1), ev_oi (ev_call 70 60 2 0 0 0 0 (ev_recv 0) E), ev_no, ev_no, ev_oi (ev_if 0 73 75), ev_no, ev_no, ev_no, ev_no, ev_oi (ev_aload 76 3), ev_oi (ev_get 79 11 3), ev_no, ev_no, ev_oi (ev_astore 80 3)]
noncomputable def ev_r23_5 (E : ev_E) : List (Option (ev_I ⊕ Nat)) := [ev_oi (ev_goto 58), ev_no, ev_no, ev_oi (ev_push 84 ev_null), ev_os 5, ev_no, ev_no, ev_no, ev_no, ev_no, ev_no, ev_no, ev_no, ev_no, ev_no, ev_no]
/-- 23: TextShell$Memory.find(LTextShell$Row;)LTextShell$Name; -/
noncomputable def ev_m23 (E : ev_E) : Nat → Option (ev_I ⊕ Nat) := ev_code [ev_r23_0 E, ev_r23_1 E, ev_r23_2 E, ev_r23_3 E, ev_r23_4 E, ev_r23_5 E]
noncomputable def ev_r24_0 (E : ev_E) : List (Option (ev_I ⊕ Nat)) := [ev_oi (ev_push 1 (ev_int 0)), ev_oi (ev_istore 2 1), ev_oi (ev_iload 3 1), ev_oi (ev_aload 4 0), ev_oi (ev_get 7 2 3), ev_no, ev_no, ev_oi (ev_icmp 3 10 56), ev_no, ev_no, ev_oi (ev_aload 11 0), ev_oi (ev_get 14 2 2), ev_no, ev_no, ev_oi (ev_iload 15 1), ev_oi (ev_ald 16 4)]
noncomputable def ev_r24_1 (E : ev_E) : List (Option (ev_I ⊕ Nat)) := [ev_oi (ev_push 17 ev_null), ev_oi (ev_put 20 11 4 5), ev_no, ev_no, ev_oi (ev_aload 21 0), ev_oi (ev_get 24 2 2), ev_no, ev_no, ev_oi (ev_iload 25 1), ev_oi (ev_ald 26 4), ev_oi (ev_push 27 (ev_int 0)), ev_oi (ev_put 30 11 5 1), ev_no, ev_no, ev_oi (ev_aload 31 0), ev_oi (ev_get 34 2 2)]
noncomputable def ev_r24_2 (E : ev_E) : List (Option (ev_I ⊕ Nat)) := [ev_no, ev_no, ev_oi (ev_iload 35 1), ev_oi (ev_ald 36 4), ev_oi (ev_push 37 ev_null), ev_oi (ev_put 40 11 6 5), ev_no, ev_no, ev_oi (ev_aload 41 0), ev_oi (ev_get 44 2 2), ev_no, ev_no, ev_oi (ev_iload 45 1), ev_oi (ev_ald 46 4), ev_oi (ev_push 47 ev_null), ev_oi (ev_put 50 11 7 5)]
noncomputable def ev_r24_3 (E : ev_E) : List (Option (ev_I ⊕ Nat)) := [ev_no, ev_no, ev_oi (ev_iinc 53 1 1), ev_no, ev_no, ev_oi (ev_goto 2), ev_no, ev_no, ev_oi (ev_aload 57 0), ev_oi (ev_push 58 (ev_int 0)), ev_oi (ev_put 61 2 10 0), ev_no, ev_no, ev_oi (ev_aload 62 0), ev_oi (ev_push 63 (ev_int 0)), ev_oi (ev_put 66 2 11 0)]
noncomputable def ev_r24_4 (E : ev_E) : List (Option (ev_I ⊕ Nat)) := [ev_no, ev_no, ev_oi (ev_aload 67 0), ev_oi (ev_push 68 (ev_int 0)), ev_oi (ev_put 71 2 12 0), ev_no, ev_no, ev_oi (ev_aload 72 0), ev_oi (ev_push 73 (ev_int 0)), ev_oi (ev_put 76 2 13 0), ev_no, ev_no, ev_oi (ev_aload 77 0), ev_oi (ev_get 80 2 16), ev_no, ev_no]
noncomputable def ev_r24_5 (E : ev_E) : List (Option (ev_I ⊕ Nat)) := [ev_oi (ev_call 83 33 1 0 0 0 0 (ev_recv 8) E), ev_no, ev_no, ev_oi (ev_aload 84 0), ev_oi (ev_aload 85 0), ev_oi (ev_get 88 2 16), ev_no, ev_no, ev_oi (ev_put 91 2 17 5), ev_no, ev_no, ev_os 0, ev_no, ev_no, ev_no, ev_no]
/-- 24: TextShell$Memory.forget()V -/
noncomputable def ev_m24 (E : ev_E) : Nat → Option (ev_I ⊕ Nat) := ev_code [ev_r24_0 E, ev_r24_1 E, ev_r24_2 E, ev_r24_3 E, ev_r24_4 E, ev_r24_5 E]
noncomputable def ev_r25_0 (E : ev_E) : List (Option (ev_I ⊕ Nat)) := [ev_oi (ev_push 1 (ev_int 0)), ev_oi (ev_istore 2 2), ev_oi (ev_push 3 (ev_int 0)), ev_oi (ev_istore 4 3), ev_oi (ev_iload 5 3), ev_oi (ev_aload 6 0), ev_oi (ev_get 9 2 3), ev_no, ev_no, ev_oi (ev_icmp 3 12 111), ev_no, ev_no, ev_oi (ev_aload 13 0), ev_oi (ev_get 16 2 2), ev_no, ev_no]
noncomputable def ev_r25_1 (E : ev_E) : List (Option (ev_I ⊕ Nat)) := [ev_oi (ev_iload 17 3), ev_oi (ev_ald 18 4), ev_oi (ev_astore 20 4), ev_no, ev_oi (ev_iload 21 1), ev_oi (ev_push 22 (ev_int 5)), ev_oi (ev_icmp 1 25 41), ev_no, ev_no, ev_oi (ev_aload 27 4), ev_no, ev_oi (ev_get 30 11 4), ev_no, ev_no, ev_oi (ev_ifnull 33 37), ev_no]
noncomputable def ev_r25_2 (E : ev_E) : List (Option (ev_I ⊕ Nat)) := [ev_no, ev_no, ev_no, ev_no, ev_no, ev_oi (ev_push 38 (ev_int 0)), ev_oi (ev_goto 90), ev_no, ev_no, ev_oi (ev_iload 42 1), ev_oi (ev_push 44 (ev_int 6)), ev_no, ev_oi (ev_icmp 1 47 55), ev_no, ev_no, ev_oi (ev_aload 49 4)]
noncomputable def ev_r25_3 (E : ev_E) : List (Option (ev_I ⊕ Nat)) := [ev_no, ev_oi (ev_get 52 11 5), ev_no, ev_no, ev_oi (ev_goto 90), ev_no, ev_no, ev_oi (ev_iload 56 1), ev_oi (ev_push 58 (ev_int 7)), ev_no, ev_oi (ev_icmp 1 61 77), ev_no, ev_no, ev_oi (ev_aload 63 4), ev_no, ev_oi (ev_get 66 11 6)]
noncomputable def ev_r25_4 (E : ev_E) : List (Option (ev_I ⊕ Nat)) := [ev_no, ev_no, ev_oi (ev_ifnull 69 73), ev_no, ev_no, ev_no, ev_no, ev_no, ev_no, ev_oi (ev_push 74 (ev_int 0)), ev_oi (ev_goto 90), ev_no, ev_no, ev_oi (ev_aload 79 4), ev_no, ev_oi (ev_get 82 11 7)]
noncomputable def ev_r25_5 (E : ev_E) : List (Option (ev_I ⊕ Nat)) := [ev_no, ev_no, ev_oi (ev_ifnull 85 89), ev_no, ev_no, ev_no, ev_no, ev_no, ev_no, ev_oi (ev_push 90 (ev_int 0)), ev_oi (ev_istore 92 5), ev_no, ev_oi (ev_iload 93 2), ev_oi (ev_iload 95 5), ev_no, ev_oi (ev_if 0 98 102)]
noncomputable def ev_r25_6 (E : ev_E) : List (Option (ev_I ⊕ Nat)) := [ev_no, ev_no, ev_no, ev_no, ev_no, ev_no, ev_oi (ev_push 103 (ev_int 0)), ev_oi (ev_bin ev_add 104), ev_oi (ev_istore 105 2), ev_oi (ev_iinc 108 3 1), ev_no, ev_no, ev_oi (ev_goto 4), ev_no, ev_no, ev_oi (ev_iload 112 2)]
noncomputable def ev_r25_7 (E : ev_E) : List (Option (ev_I ⊕ Nat)) := [ev_os 1, ev_no, ev_no, ev_no, ev_no, ev_no, ev_no, ev_no, ev_no, ev_no, ev_no, ev_no, ev_no, ev_no, ev_no, ev_no]
/-- 25: TextShell$Memory.howMany(I)I -/
noncomputable def ev_m25 (E : ev_E) : Nat → Option (ev_I ⊕ Nat) := ev_code [ev_r25_0 E, ev_r25_1 E, ev_r25_2 E, ev_r25_3 E, ev_r25_4 E, ev_r25_5 E, ev_r25_6 E, ev_r25_7 E]
noncomputable def ev_r26_0 (E : ev_E) : List (Option (ev_I ⊕ Nat)) := [ev_oi (ev_aload 1 0), ev_oi (ev_aload 2 1), ev_oi (ev_call 5 23 2 0 0 3 76 (ev_recv 2) E), ev_no, ev_no, ev_oi (ev_astore 6 2), ev_oi (ev_aload 7 2), ev_oi (ev_ifnull 10 12), ev_no, ev_no, ev_no, ev_no, ev_oi (ev_aload 13 0), ev_oi (ev_get 16 2 3), ev_no, ev_no]
noncomputable def ev_r26_1 (E : ev_E) : List (Option (ev_I ⊕ Nat)) := [ev_oi (ev_aload 17 0), ev_oi (ev_get 20 2 2), ev_no, ev_no, ev_oi (ev_alen 21), ev_oi (ev_icmp 2 24 77), ev_no, ev_no, ev_no, ev_no, ev_no, ev_no, ev_no, ev_no, ev_no, ev_no]
noncomputable def ev_r26_4 (E : ev_E) : List (Option (ev_I ⊕ Nat)) := [ev_no, ev_no, ev_no, ev_no, ev_no, ev_no, ev_no, ev_no, ev_no, ev_no, ev_no, ev_no, ev_no, ev_oi (ev_new 80 11 10 3 76 ev_f11), ev_no, ev_no]
noncomputable def ev_r26_5 (E : ev_E) : List (Option (ev_I ⊕ Nat)) := [ev_oi (ev_dup 81), ev_oi (ev_aload 82 1), ev_oi (ev_push 83 (ev_int 0)), ev_oi (ev_aload 84 1), ev_oi (ev_get 87 0 1), ev_no, ev_no, ev_oi (ev_call 90 59 3 2 66 3 76 (ev_recv 0) E), ev_no, ev_no, ev_oi (ev_aload 91 0), ev_oi (ev_get 94 2 3), ev_no, ev_no, ev_oi (ev_call 97 31 3 0 0 3 76 (ev_recv 11) E), ev_no]
noncomputable def ev_r26_6 (E : ev_E) : List (Option (ev_I ⊕ Nat)) := [ev_no, ev_oi (ev_astore 98 3), ev_oi (ev_aload 99 3), ev_oi (ev_aload 100 0), ev_oi (ev_get 103 2 0), ev_no, ev_no, ev_oi (ev_aload 104 0), ev_oi (ev_get 107 2 1), ev_no, ev_no, ev_oi (ev_ald 108 4), ev_oi (ev_put 111 11 3 5), ev_no, ev_no, ev_oi (ev_aload 112 0)]
noncomputable def ev_r26_7 (E : ev_E) : List (Option (ev_I ⊕ Nat)) := [ev_oi (ev_get 115 2 0), ev_no, ev_no, ev_oi (ev_aload 116 0), ev_oi (ev_get 119 2 1), ev_no, ev_no, ev_oi (ev_aload 120 3), ev_oi (ev_astq 121 4 11), ev_oi (ev_aload 122 0), ev_oi (ev_get 125 2 2), ev_no, ev_no, ev_oi (ev_aload 126 0), ev_oi (ev_get 129 2 3), ev_no]
noncomputable def ev_r26_8 (E : ev_E) : List (Option (ev_I ⊕ Nat)) := [ev_no, ev_oi (ev_aload 130 3), ev_oi (ev_astq 131 4 11), ev_oi (ev_aload 132 0), ev_oi (ev_dup 133), ev_oi (ev_get 136 2 3), ev_no, ev_no, ev_oi (ev_push 137 (ev_int 1)), ev_oi (ev_bin ev_add 138), ev_oi (ev_put 141 2 3 0), ev_no, ev_no, ev_oi (ev_aload 142 3), ev_os 5, ev_no]
/-- 26: TextShell$Memory.name(LTextShell$Row;)LTextShell$Name; -/
noncomputable def ev_m26 (E : ev_E) : Nat → Option (ev_I ⊕ Nat) := ev_code [ev_r26_0 E, ev_r26_1 E, [], [], ev_r26_4 E, ev_r26_5 E, ev_r26_6 E, ev_r26_7 E, ev_r26_8 E]
noncomputable def ev_r27_0 (E : ev_E) : List (Option (ev_I ⊕ Nat)) := [ev_oi (ev_aload 1 0), ev_oi (ev_aload 2 1), ev_oi (ev_call 5 28 1 2 66 5 142 ev_rc1 E), ev_no, ev_no, ev_oi (ev_call 8 26 2 3 76 5 142 (ev_recv 2) E), ev_no, ev_no, ev_oi (ev_iload 9 2), ev_oi (ev_put 12 11 9 0), ev_no, ev_no, ev_os 0, ev_no, ev_no, ev_no]
/-- 27: TextShell$Memory.reserve(Ljava/lang/String;I)V -/
noncomputable def ev_m27 (E : ev_E) : Nat → Option (ev_I ⊕ Nat) := ev_code [ev_r27_0 E]
noncomputable def ev_r28_0 (E : ev_E) : List (Option (ev_I ⊕ Nat)) := [ev_oi (ev_new 3 0 2 2 66 ev_f0), ev_no, ev_no, ev_oi (ev_dup 4), ev_oi (ev_aload 5 0), ev_oi (ev_call 8 126 1 0 0 2 66 ev_rclit E), ev_no, ev_no, ev_oi (ev_call 11 52 2 1 64 2 66 (ev_recv 0) E), ev_no, ev_no, ev_oi (ev_astore 12 1), ev_oi (ev_aload 13 1), ev_oi (ev_aload 14 0), ev_oi (ev_call 17 55 2 0 0 2 66 (ev_recv 0) E), ev_no]
noncomputable def ev_r28_1 (E : ev_E) : List (Option (ev_I ⊕ Nat)) := [ev_no, ev_oi (ev_aload 18 1), ev_os 5, ev_no, ev_no, ev_no, ev_no, ev_no, ev_no, ev_no, ev_no, ev_no, ev_no, ev_no, ev_no, ev_no]
/-- 28: TextShell$Memory.row(Ljava/lang/String;)LTextShell$Row; -/
noncomputable def ev_m28 (E : ev_E) : Nat → Option (ev_I ⊕ Nat) := ev_code [ev_r28_0 E, ev_r28_1 E]
noncomputable def ev_r29_0 (E : ev_E) : List (Option (ev_I ⊕ Nat)) := [ev_oi (ev_aload 1 0), ev_oi (ev_push 3 (ev_ext 36)), ev_no, ev_oi (ev_push 4 (ev_int 1)), ev_oi (ev_call 7 22 3 5 142 195 5538 (ev_recv 2) E), ev_no, ev_no, ev_oi (ev_aload 8 0), ev_oi (ev_push 10 (ev_ext 38)), ev_no, ev_oi (ev_push 11 (ev_int 2)), ev_oi (ev_call 14 22 3 5 142 195 5538 (ev_recv 2) E), ev_no, ev_no, ev_oi (ev_aload 15 0), ev_oi (ev_push 17 (ev_ext 40))]
noncomputable def ev_r29_1 (E : ev_E) : List (Option (ev_I ⊕ Nat)) := [ev_no, ev_oi (ev_push 18 (ev_int 3)), ev_oi (ev_call 21 22 3 5 142 195 5538 (ev_recv 2) E), ev_no, ev_no, ev_oi (ev_aload 22 0), ev_oi (ev_push 24 (ev_ext 42)), ev_no, ev_oi (ev_push 25 (ev_int 4)), ev_oi (ev_call 28 22 3 5 142 195 5538 (ev_recv 2) E), ev_no, ev_no, ev_oi (ev_aload 29 0), ev_oi (ev_push 31 (ev_ext 44)), ev_no, ev_oi (ev_push 32 (ev_int 5))]
noncomputable def ev_r29_2 (E : ev_E) : List (Option (ev_I ⊕ Nat)) := [ev_oi (ev_call 35 22 3 5 142 195 5538 (ev_recv 2) E), ev_no, ev_no, ev_oi (ev_aload 36 0), ev_oi (ev_push 38 (ev_ext 46)), ev_no, ev_oi (ev_push 40 (ev_int 6)), ev_no, ev_oi (ev_call 43 22 3 5 142 195 5538 (ev_recv 2) E), ev_no, ev_no, ev_oi (ev_aload 44 0), ev_oi (ev_push 46 (ev_ext 48)), ev_no, ev_oi (ev_push 48 (ev_int 7)), ev_no]
noncomputable def ev_r29_3 (E : ev_E) : List (Option (ev_I ⊕ Nat)) := [ev_oi (ev_call 51 22 3 5 142 195 5538 (ev_recv 2) E), ev_no, ev_no, ev_oi (ev_aload 52 0), ev_oi (ev_push 54 (ev_ext 50)), ev_no, ev_oi (ev_push 56 (ev_int 8)), ev_no, ev_oi (ev_call 59 22 3 5 142 195 5538 (ev_recv 2) E), ev_no, ev_no, ev_oi (ev_aload 60 0), ev_oi (ev_push 62 (ev_ext 52)), ev_no, ev_oi (ev_push 64 (ev_int 9)), ev_no]
noncomputable def ev_r29_4 (E : ev_E) : List (Option (ev_I ⊕ Nat)) := [ev_oi (ev_call 67 22 3 5 142 195 5538 (ev_recv 2) E), ev_no, ev_no, ev_oi (ev_aload 68 0), ev_oi (ev_push 70 (ev_ext 54)), ev_no, ev_oi (ev_push 72 (ev_int 10)), ev_no, ev_oi (ev_call 75 22 3 5 142 195 5538 (ev_recv 2) E), ev_no, ev_no, ev_oi (ev_aload 76 0), ev_oi (ev_push 78 (ev_ext 56)), ev_no, ev_oi (ev_push 80 (ev_int 11)), ev_no]
noncomputable def ev_r29_5 (E : ev_E) : List (Option (ev_I ⊕ Nat)) := [ev_oi (ev_call 83 22 3 5 142 195 5538 (ev_recv 2) E), ev_no, ev_no, ev_oi (ev_aload 84 0), ev_oi (ev_push 86 (ev_ext 58)), ev_no, ev_oi (ev_push 88 (ev_int 12)), ev_no, ev_oi (ev_call 91 22 3 5 142 195 5538 (ev_recv 2) E), ev_no, ev_no, ev_oi (ev_aload 92 0), ev_oi (ev_push 94 (ev_ext 60)), ev_no, ev_oi (ev_push 96 (ev_int 13)), ev_no]
noncomputable def ev_r29_6 (E : ev_E) : List (Option (ev_I ⊕ Nat)) := [ev_oi (ev_call 99 22 3 5 142 195 5538 (ev_recv 2) E), ev_no, ev_no, ev_oi (ev_aload 100 0), ev_oi (ev_push 102 (ev_ext 62)), ev_no, ev_oi (ev_push 104 (ev_int 14)), ev_no, ev_oi (ev_call 107 22 3 5 142 195 5538 (ev_recv 2) E), ev_no, ev_no, ev_oi (ev_aload 108 0), ev_oi (ev_push 110 (ev_ext 64)), ev_no, ev_oi (ev_push 112 (ev_int 15)), ev_no]
noncomputable def ev_r29_7 (E : ev_E) : List (Option (ev_I ⊕ Nat)) := [ev_oi (ev_call 115 22 3 5 142 195 5538 (ev_recv 2) E), ev_no, ev_no, ev_oi (ev_aload 116 0), ev_oi (ev_push 118 (ev_ext 66)), ev_no, ev_oi (ev_push 120 (ev_int 16)), ev_no, ev_oi (ev_call 123 22 3 5 142 195 5538 (ev_recv 2) E), ev_no, ev_no, ev_oi (ev_aload 124 0), ev_oi (ev_push 126 (ev_ext 68)), ev_no, ev_oi (ev_push 128 (ev_int 17)), ev_no]
noncomputable def ev_r29_8 (E : ev_E) : List (Option (ev_I ⊕ Nat)) := [ev_oi (ev_call 131 22 3 5 142 195 5538 (ev_recv 2) E), ev_no, ev_no, ev_oi (ev_aload 132 0), ev_oi (ev_push 134 (ev_ext 70)), ev_no, ev_oi (ev_push 136 (ev_int 18)), ev_no, ev_oi (ev_call 139 22 3 5 142 195 5538 (ev_recv 2) E), ev_no, ev_no, ev_oi (ev_aload 140 0), ev_oi (ev_push 142 (ev_ext 72)), ev_no, ev_oi (ev_push 144 (ev_int 19)), ev_no]
noncomputable def ev_r29_9 (E : ev_E) : List (Option (ev_I ⊕ Nat)) := [ev_oi (ev_call 147 22 3 5 142 195 5538 (ev_recv 2) E), ev_no, ev_no, ev_oi (ev_aload 148 0), ev_oi (ev_push 150 (ev_ext 74)), ev_no, ev_oi (ev_push 152 (ev_int 20)), ev_no, ev_oi (ev_call 155 22 3 5 142 195 5538 (ev_recv 2) E), ev_no, ev_no, ev_oi (ev_aload 156 0), ev_oi (ev_push 158 (ev_ext 76)), ev_no, ev_oi (ev_push 160 (ev_int 21)), ev_no]
noncomputable def ev_r29_10 (E : ev_E) : List (Option (ev_I ⊕ Nat)) := [ev_oi (ev_call 163 22 3 5 142 195 5538 (ev_recv 2) E), ev_no, ev_no, ev_oi (ev_aload 164 0), ev_oi (ev_push 166 (ev_ext 78)), ev_no, ev_oi (ev_push 168 (ev_int 22)), ev_no, ev_oi (ev_call 171 22 3 5 142 195 5538 (ev_recv 2) E), ev_no, ev_no, ev_oi (ev_aload 172 0), ev_oi (ev_push 174 (ev_ext 80)), ev_no, ev_oi (ev_push 176 (ev_int 23)), ev_no]
noncomputable def ev_r29_11 (E : ev_E) : List (Option (ev_I ⊕ Nat)) := [ev_oi (ev_call 179 22 3 5 142 195 5538 (ev_recv 2) E), ev_no, ev_no, ev_oi (ev_aload 180 0), ev_oi (ev_push 182 (ev_ext 82)), ev_no, ev_oi (ev_push 184 (ev_int 24)), ev_no, ev_oi (ev_call 187 22 3 5 142 195 5538 (ev_recv 2) E), ev_no, ev_no, ev_oi (ev_aload 188 0), ev_oi (ev_push 190 (ev_ext 84)), ev_no, ev_oi (ev_push 192 (ev_int 25)), ev_no]
noncomputable def ev_r29_12 (E : ev_E) : List (Option (ev_I ⊕ Nat)) := [ev_oi (ev_call 195 22 3 5 142 195 5538 (ev_recv 2) E), ev_no, ev_no, ev_oi (ev_aload 196 0), ev_oi (ev_push 198 (ev_ext 86)), ev_no, ev_oi (ev_push 200 (ev_int 26)), ev_no, ev_oi (ev_call 203 22 3 5 142 195 5538 (ev_recv 2) E), ev_no, ev_no, ev_oi (ev_aload 204 0), ev_oi (ev_push 206 (ev_ext 88)), ev_no, ev_oi (ev_push 208 (ev_int 27)), ev_no]
noncomputable def ev_r29_13 (E : ev_E) : List (Option (ev_I ⊕ Nat)) := [ev_oi (ev_call 211 22 3 5 142 195 5538 (ev_recv 2) E), ev_no, ev_no, ev_oi (ev_aload 212 0), ev_oi (ev_push 214 (ev_ext 90)), ev_no, ev_oi (ev_push 216 (ev_int 28)), ev_no, ev_oi (ev_call 219 22 3 5 142 195 5538 (ev_recv 2) E), ev_no, ev_no, ev_oi (ev_aload 220 0), ev_oi (ev_push 222 (ev_ext 92)), ev_no, ev_oi (ev_push 224 (ev_int 29)), ev_no]
noncomputable def ev_r29_14 (E : ev_E) : List (Option (ev_I ⊕ Nat)) := [ev_oi (ev_call 227 22 3 5 142 195 5538 (ev_recv 2) E), ev_no, ev_no, ev_oi (ev_aload 228 0), ev_oi (ev_push 230 (ev_ext 94)), ev_no, ev_oi (ev_push 232 (ev_int 30)), ev_no, ev_oi (ev_call 235 22 3 5 142 195 5538 (ev_recv 2) E), ev_no, ev_no, ev_oi (ev_aload 236 0), ev_oi (ev_push 238 (ev_ext 96)), ev_no, ev_oi (ev_push 240 (ev_int 31)), ev_no]
noncomputable def ev_r29_15 (E : ev_E) : List (Option (ev_I ⊕ Nat)) := [ev_oi (ev_call 243 22 3 5 142 195 5538 (ev_recv 2) E), ev_no, ev_no, ev_oi (ev_aload 244 0), ev_oi (ev_push 246 (ev_ext 98)), ev_no, ev_oi (ev_push 248 (ev_int 32)), ev_no, ev_oi (ev_call 251 22 3 5 142 195 5538 (ev_recv 2) E), ev_no, ev_no, ev_oi (ev_aload 252 0), ev_oi (ev_push 254 (ev_ext 100)), ev_no, ev_oi (ev_push 256 (ev_int 33)), ev_no]
noncomputable def ev_r29_16 (E : ev_E) : List (Option (ev_I ⊕ Nat)) := [ev_oi (ev_call 259 22 3 5 142 195 5538 (ev_recv 2) E), ev_no, ev_no, ev_oi (ev_aload 260 0), ev_oi (ev_push 262 (ev_ext 102)), ev_no, ev_oi (ev_push 264 (ev_int 34)), ev_no, ev_oi (ev_call 267 22 3 5 142 195 5538 (ev_recv 2) E), ev_no, ev_no, ev_oi (ev_aload 268 0), ev_oi (ev_push 270 (ev_ext 104)), ev_no, ev_oi (ev_push 272 (ev_int 35)), ev_no]
noncomputable def ev_r29_17 (E : ev_E) : List (Option (ev_I ⊕ Nat)) := [ev_oi (ev_call 275 22 3 5 142 195 5538 (ev_recv 2) E), ev_no, ev_no, ev_oi (ev_aload 276 0), ev_oi (ev_push 278 (ev_ext 106)), ev_no, ev_oi (ev_push 280 (ev_int 36)), ev_no, ev_oi (ev_call 283 22 3 5 142 195 5538 (ev_recv 2) E), ev_no, ev_no, ev_oi (ev_aload 284 0), ev_oi (ev_push 286 (ev_ext 108)), ev_no, ev_oi (ev_push 288 (ev_int 37)), ev_no]
noncomputable def ev_r29_18 (E : ev_E) : List (Option (ev_I ⊕ Nat)) := [ev_oi (ev_call 291 22 3 5 142 195 5538 (ev_recv 2) E), ev_no, ev_no, ev_oi (ev_aload 292 0), ev_oi (ev_push 294 (ev_ext 110)), ev_no, ev_oi (ev_push 296 (ev_int 38)), ev_no, ev_oi (ev_call 299 22 3 5 142 195 5538 (ev_recv 2) E), ev_no, ev_no, ev_oi (ev_aload 300 0), ev_oi (ev_push 302 (ev_ext 112)), ev_no, ev_oi (ev_push 304 (ev_int 39)), ev_no]
noncomputable def ev_r29_19 (E : ev_E) : List (Option (ev_I ⊕ Nat)) := [ev_oi (ev_call 307 22 3 5 142 195 5538 (ev_recv 2) E), ev_no, ev_no, ev_os 0, ev_no, ev_no, ev_no, ev_no, ev_no, ev_no, ev_no, ev_no, ev_no, ev_no, ev_no, ev_no]
/-- 29: TextShell$Memory.tellCommands()V -/
noncomputable def ev_m29 (E : ev_E) : Nat → Option (ev_I ⊕ Nat) := ev_code [ev_r29_0 E, ev_r29_1 E, ev_r29_2 E, ev_r29_3 E, ev_r29_4 E, ev_r29_5 E, ev_r29_6 E, ev_r29_7 E, ev_r29_8 E, ev_r29_9 E, ev_r29_10 E, ev_r29_11 E, ev_r29_12 E, ev_r29_13 E, ev_r29_14 E, ev_r29_15 E, ev_r29_16 E, ev_r29_17 E, ev_r29_18 E, ev_r29_19 E]
noncomputable def ev_r30_0 (E : ev_E) : List (Option (ev_I ⊕ Nat)) := [ev_oi (ev_aload 1 0), ev_oi (ev_push 3 (ev_ext 4)), ev_no, ev_oi (ev_push 4 (ev_int 1)), ev_oi (ev_call 7 27 3 5 142 80 2272 (ev_recv 2) E), ev_no, ev_no, ev_oi (ev_aload 8 0), ev_oi (ev_push 10 (ev_ext 6)), ev_no, ev_oi (ev_push 11 (ev_int 2)), ev_oi (ev_call 14 27 3 5 142 80 2272 (ev_recv 2) E), ev_no, ev_no, ev_oi (ev_aload 15 0), ev_oi (ev_push 17 (ev_ext 8))]
noncomputable def ev_r30_1 (E : ev_E) : List (Option (ev_I ⊕ Nat)) := [ev_no, ev_oi (ev_push 18 (ev_int 3)), ev_oi (ev_call 21 27 3 5 142 80 2272 (ev_recv 2) E), ev_no, ev_no, ev_oi (ev_aload 22 0), ev_oi (ev_push 24 (ev_ext 10)), ev_no, ev_oi (ev_push 25 (ev_int 4)), ev_oi (ev_call 28 27 3 5 142 80 2272 (ev_recv 2) E), ev_no, ev_no, ev_oi (ev_aload 29 0), ev_oi (ev_push 31 (ev_ext 12)), ev_no, ev_oi (ev_push 32 (ev_int 5))]
noncomputable def ev_r30_2 (E : ev_E) : List (Option (ev_I ⊕ Nat)) := [ev_oi (ev_call 35 27 3 5 142 80 2272 (ev_recv 2) E), ev_no, ev_no, ev_oi (ev_aload 36 0), ev_oi (ev_push 38 (ev_ext 14)), ev_no, ev_oi (ev_push 40 (ev_int 6)), ev_no, ev_oi (ev_call 43 27 3 5 142 80 2272 (ev_recv 2) E), ev_no, ev_no, ev_oi (ev_aload 44 0), ev_oi (ev_push 46 (ev_ext 16)), ev_no, ev_oi (ev_push 48 (ev_int 7)), ev_no]
noncomputable def ev_r30_3 (E : ev_E) : List (Option (ev_I ⊕ Nat)) := [ev_oi (ev_call 51 27 3 5 142 80 2272 (ev_recv 2) E), ev_no, ev_no, ev_oi (ev_aload 52 0), ev_oi (ev_push 54 (ev_ext 18)), ev_no, ev_oi (ev_push 56 (ev_int 8)), ev_no, ev_oi (ev_call 59 27 3 5 142 80 2272 (ev_recv 2) E), ev_no, ev_no, ev_oi (ev_aload 60 0), ev_oi (ev_push 62 (ev_ext 20)), ev_no, ev_oi (ev_push 64 (ev_int 9)), ev_no]
noncomputable def ev_r30_4 (E : ev_E) : List (Option (ev_I ⊕ Nat)) := [ev_oi (ev_call 67 27 3 5 142 80 2272 (ev_recv 2) E), ev_no, ev_no, ev_oi (ev_aload 68 0), ev_oi (ev_push 70 (ev_ext 22)), ev_no, ev_oi (ev_push 72 (ev_int 10)), ev_no, ev_oi (ev_call 75 27 3 5 142 80 2272 (ev_recv 2) E), ev_no, ev_no, ev_oi (ev_aload 76 0), ev_oi (ev_push 78 (ev_ext 24)), ev_no, ev_oi (ev_push 80 (ev_int 11)), ev_no]
noncomputable def ev_r30_5 (E : ev_E) : List (Option (ev_I ⊕ Nat)) := [ev_oi (ev_call 83 27 3 5 142 80 2272 (ev_recv 2) E), ev_no, ev_no, ev_oi (ev_aload 84 0), ev_oi (ev_push 86 (ev_ext 26)), ev_no, ev_oi (ev_push 88 (ev_int 12)), ev_no, ev_oi (ev_call 91 27 3 5 142 80 2272 (ev_recv 2) E), ev_no, ev_no, ev_oi (ev_aload 92 0), ev_oi (ev_push 94 (ev_ext 28)), ev_no, ev_oi (ev_push 96 (ev_int 13)), ev_no]
noncomputable def ev_r30_6 (E : ev_E) : List (Option (ev_I ⊕ Nat)) := [ev_oi (ev_call 99 27 3 5 142 80 2272 (ev_recv 2) E), ev_no, ev_no, ev_oi (ev_aload 100 0), ev_oi (ev_push 102 (ev_ext 30)), ev_no, ev_oi (ev_push 104 (ev_int 14)), ev_no, ev_oi (ev_call 107 27 3 5 142 80 2272 (ev_recv 2) E), ev_no, ev_no, ev_oi (ev_aload 108 0), ev_oi (ev_push 110 (ev_ext 32)), ev_no, ev_oi (ev_push 112 (ev_int 15)), ev_no]
noncomputable def ev_r30_7 (E : ev_E) : List (Option (ev_I ⊕ Nat)) := [ev_oi (ev_call 115 27 3 5 142 80 2272 (ev_recv 2) E), ev_no, ev_no, ev_oi (ev_aload 116 0), ev_oi (ev_push 118 (ev_ext 34)), ev_no, ev_oi (ev_push 120 (ev_int 16)), ev_no, ev_oi (ev_call 123 27 3 5 142 80 2272 (ev_recv 2) E), ev_no, ev_no, ev_os 0, ev_no, ev_no, ev_no, ev_no]
/-- 30: TextShell$Memory.tellReserved()V -/
noncomputable def ev_m30 (E : ev_E) : Nat → Option (ev_I ⊕ Nat) := ev_code [ev_r30_0 E, ev_r30_1 E, ev_r30_2 E, ev_r30_3 E, ev_r30_4 E, ev_r30_5 E, ev_r30_6 E, ev_r30_7 E]
noncomputable def ev_r31_0 (E : ev_E) : List (Option (ev_I ⊕ Nat)) := [ev_oi (ev_aload 1 0), ev_oi (ev_objinit 4), ev_no, ev_no, ev_oi (ev_aload 5 0), ev_oi (ev_aload 6 1), ev_oi (ev_put 9 11 0 5), ev_no, ev_no, ev_oi (ev_aload 10 0), ev_oi (ev_iload 11 2), ev_oi (ev_put 14 11 1 0), ev_no, ev_no, ev_os 0, ev_no]
/-- 31: TextShell$Name.<init>(LTextShell$Row;I)V -/
noncomputable def ev_m31 (E : ev_E) : Nat → Option (ev_I ⊕ Nat) := ev_code [ev_r31_0 E]
noncomputable def ev_r32_0 (E : ev_E) : List (Option (ev_I ⊕ Nat)) := [ev_oi (ev_aload 1 0), ev_oi (ev_objinit 4), ev_no, ev_no, ev_oi (ev_aload 5 0), ev_oi (ev_push 6 (ev_int 1)), ev_oi (ev_put 9 8 10 0), ev_no, ev_no, ev_oi (ev_aload 10 0), ev_oi (ev_aload 11 1), ev_oi (ev_put 14 8 0 5), ev_no, ev_no, ev_oi (ev_aload 15 0), ev_oi (ev_aload 16 2)]
noncomputable def ev_r32_1 (E : ev_E) : List (Option (ev_I ⊕ Nat)) := [ev_oi (ev_put 19 8 1 5), ev_no, ev_no, ev_oi (ev_aload 20 0), ev_oi (ev_aload 21 2), ev_oi (ev_ifnonnull 24 28), ev_no, ev_no, ev_oi (ev_aload 25 0), ev_oi (ev_goto 32), ev_no, ev_no, ev_no, ev_no, ev_no, ev_no]
noncomputable def ev_r32_2 (E : ev_E) : List (Option (ev_I ⊕ Nat)) := [ev_oi (ev_put 35 8 4 5), ev_no, ev_no, ev_oi (ev_aload 36 0), ev_oi (ev_iload 37 3), ev_oi (ev_if 0 40 44), ev_no, ev_no, ev_oi (ev_push 41 ev_null), ev_oi (ev_goto 53), ev_no, ev_no, ev_no, ev_no, ev_no, ev_no]
noncomputable def ev_r32_3 (E : ev_E) : List (Option (ev_I ⊕ Nat)) := [ev_no, ev_no, ev_no, ev_no, ev_no, ev_oi (ev_put 56 8 5 5), ev_no, ev_no, ev_os 0, ev_no, ev_no, ev_no, ev_no, ev_no, ev_no, ev_no]
/-- 32: TextShell$Node.<init>(LTextShell$Row;LTextShell$Node;Z)V -/
noncomputable def ev_m32 (E : ev_E) : Nat → Option (ev_I ⊕ Nat) := ev_code [ev_r32_0 E, ev_r32_1 E, ev_r32_2 E, ev_r32_3 E]
noncomputable def ev_r33_0 (E : ev_E) : List (Option (ev_I ⊕ Nat)) := [ev_oi (ev_aload 1 0), ev_oi (ev_push 2 ev_null), ev_oi (ev_put 5 8 3 5), ev_no, ev_no, ev_oi (ev_aload 6 0), ev_oi (ev_push 7 (ev_int 0)), ev_oi (ev_put 10 8 9 0), ev_no, ev_no, ev_oi (ev_aload 11 0), ev_oi (ev_push 12 (ev_int 1)), ev_oi (ev_put 15 8 10 0), ev_no, ev_no, ev_oi (ev_aload 16 0)]
noncomputable def ev_r33_1 (E : ev_E) : List (Option (ev_I ⊕ Nat)) := [ev_oi (ev_push 17 (ev_int 0)), ev_oi (ev_put 20 8 11 0), ev_no, ev_no, ev_os 0, ev_no, ev_no, ev_no, ev_no, ev_no, ev_no, ev_no, ev_no, ev_no, ev_no, ev_no]
/-- 33: TextShell$Node.empty()V -/
noncomputable def ev_m33 (E : ev_E) : Nat → Option (ev_I ⊕ Nat) := ev_code [ev_r33_0 E, ev_r33_1 E]
noncomputable def ev_r34_0 (E : ev_E) : List (Option (ev_I ⊕ Nat)) := [ev_oi (ev_aload 1 0), ev_oi (ev_objinit 4), ev_no, ev_no, ev_oi (ev_aload 5 0), ev_oi (ev_push 7 (ev_int 64)), ev_no, ev_oi (ev_newa 10 6 2 5 210), ev_no, ev_no, ev_oi (ev_put 13 3 1 5), ev_no, ev_no, ev_oi (ev_aload 14 0), ev_oi (ev_push 16 (ev_int 64)), ev_no]
noncomputable def ev_r34_1 (E : ev_E) : List (Option (ev_I ⊕ Nat)) := [ev_oi (ev_newa 18 1 0 5 210), ev_no, ev_oi (ev_put 21 3 4 5), ev_no, ev_no, ev_oi (ev_aload 22 0), ev_oi (ev_push 24 (ev_int 16)), ev_no, ev_oi (ev_newa 27 7 2 5 210), ev_no, ev_no, ev_oi (ev_put 30 3 6 5), ev_no, ev_no, ev_oi (ev_aload 31 0), ev_oi (ev_new 34 0 2 5 210 ev_f0)]
noncomputable def ev_r34_2 (E : ev_E) : List (Option (ev_I ⊕ Nat)) := [ev_no, ev_no, ev_oi (ev_dup 35), ev_oi (ev_push 37 (ev_int 16)), ev_no, ev_oi (ev_call 40 52 2 1 64 5 210 (ev_recv 0) E), ev_no, ev_no, ev_oi (ev_put 43 3 8 5), ev_no, ev_no, ev_oi (ev_aload 44 0), ev_oi (ev_aload 45 1), ev_oi (ev_put 48 3 0 5), ev_no, ev_no]
noncomputable def ev_r34_3 (E : ev_E) : List (Option (ev_I ⊕ Nat)) := [ev_os 0, ev_no, ev_no, ev_no, ev_no, ev_no, ev_no, ev_no, ev_no, ev_no, ev_no, ev_no, ev_no, ev_no, ev_no, ev_no]
/-- 34: TextShell$Reader.<init>(LTextShell$Memory;)V -/
noncomputable def ev_m34 (E : ev_E) : Nat → Option (ev_I ⊕ Nat) := ev_code [ev_r34_0 E, ev_r34_1 E, ev_r34_2 E, ev_r34_3 E]
noncomputable def ev_r35_0 (E : ev_E) : List (Option (ev_I ⊕ Nat)) := [ev_oi (ev_aload 1 1), ev_oi (ev_get 4 10 1), ev_no, ev_no, ev_oi (ev_tsw 0 [60, 68, 76, 84, 92, 116, 124, 124, 124, 124] 132), ev_no, ev_no, ev_no, ev_no, ev_no, ev_no, ev_no, ev_no, ev_no, ev_no, ev_no]
noncomputable def ev_r35_3 (E : ev_E) : List (Option (ev_I ⊕ Nat)) := [ev_no, ev_no, ev_no, ev_no, ev_no, ev_no, ev_no, ev_no, ev_no, ev_no, ev_no, ev_no, ev_oi (ev_aload 61 0), ev_oi (ev_aload 62 1), ev_oi (ev_call 65 36 2 1 15 1 15 (ev_recv 3) E), ev_no]
noncomputable def ev_r35_4 (E : ev_E) : List (Option (ev_I ⊕ Nat)) := [ev_no, ev_oi (ev_goto 137), ev_no, ev_no, ev_no, ev_no, ev_no, ev_no, ev_no, ev_no, ev_no, ev_no, ev_no, ev_no, ev_no, ev_no]
noncomputable def ev_r35_8 (E : ev_E) : List (Option (ev_I ⊕ Nat)) := [ev_no, ev_no, ev_no, ev_no, ev_no, ev_no, ev_no, ev_no, ev_no, ev_os 0, ev_no, ev_no, ev_no, ev_no, ev_no, ev_no]
/-- 35: TextShell$Reader.accept(LTextShell$Frame;)V -/
noncomputable def ev_m35 (E : ev_E) : Nat → Option (ev_I ⊕ Nat) := ev_code [ev_r35_0 E, [], [], ev_r35_3 E, ev_r35_4 E, [], [], [], ev_r35_8 E]
noncomputable def ev_r36_0 (E : ev_E) : List (Option (ev_I ⊕ Nat)) := [ev_oi (ev_aload 1 0), ev_oi (ev_get 4 3 16), ev_no, ev_no, ev_oi (ev_push 6 (ev_int 17)), ev_no, ev_oi (ev_icmp 1 9 51), ev_no, ev_no, ev_no, ev_no, ev_no, ev_no, ev_no, ev_no, ev_no]
noncomputable def ev_r36_3 (E : ev_E) : List (Option (ev_I ⊕ Nat)) := [ev_no, ev_no, ev_no, ev_oi (ev_aload 52 0), ev_oi (ev_get 55 3 16), ev_no, ev_no, ev_oi (ev_call 58 42 1 0 0 1 15 ev_rc1 E), ev_no, ev_no, ev_oi (ev_if 0 61 80), ev_no, ev_no, ev_no, ev_no, ev_no]
noncomputable def ev_r36_5 (E : ev_E) : List (Option (ev_I ⊕ Nat)) := [ev_oi (ev_aload 81 0), ev_oi (ev_get 84 3 16), ev_no, ev_no, ev_oi (ev_push 85 (ev_int 1)), ev_oi (ev_icmp 1 88 104), ev_no, ev_no, ev_oi (ev_aload 89 1), ev_oi (ev_push 90 (ev_int 2)), ev_oi (ev_call 93 19 2 0 0 1 15 (ev_recv 10) E), ev_no, ev_no, ev_oi (ev_if 1 96 104), ev_no, ev_no]
noncomputable def ev_r36_6 (E : ev_E) : List (Option (ev_I ⊕ Nat)) := [ev_oi (ev_aload 97 0), ev_oi (ev_aload 98 1), ev_oi (ev_call 101 44 2 0 0 1 15 (ev_recv 3) E), ev_no, ev_no, ev_oi (ev_goto 168), ev_no, ev_no, ev_oi (ev_aload 105 0), ev_oi (ev_get 108 3 16), ev_no, ev_no, ev_oi (ev_push 110 (ev_int 8)), ev_no, ev_oi (ev_icmp 1 113 122), ev_no]
noncomputable def ev_r36_7 (E : ev_E) : List (Option (ev_I ⊕ Nat)) := [ev_no, ev_no, ev_no, ev_no, ev_no, ev_no, ev_no, ev_no, ev_no, ev_no, ev_oi (ev_aload 123 0), ev_oi (ev_get 126 3 16), ev_no, ev_no, ev_oi (ev_push 128 (ev_int 9)), ev_no]
noncomputable def ev_r36_8 (E : ev_E) : List (Option (ev_I ⊕ Nat)) := [ev_oi (ev_icmp 0 131 148), ev_no, ev_no, ev_oi (ev_aload 132 0), ev_oi (ev_get 135 3 16), ev_no, ev_no, ev_oi (ev_push 136 (ev_int 4)), ev_oi (ev_icmp 0 139 148), ev_no, ev_no, ev_oi (ev_aload 140 0), ev_oi (ev_get 143 3 16), ev_no, ev_no, ev_oi (ev_push 145 (ev_int 19))]
noncomputable def ev_r36_9 (E : ev_E) : List (Option (ev_I ⊕ Nat)) := [ev_no, ev_oi (ev_icmp 1 148 164), ev_no, ev_no, ev_oi (ev_aload 149 1), ev_oi (ev_push 150 (ev_int 1)), ev_oi (ev_call 153 19 2 0 0 1 15 (ev_recv 10) E), ev_no, ev_no, ev_oi (ev_if 1 156 164), ev_no, ev_no, ev_oi (ev_aload 157 0), ev_oi (ev_aload 158 1), ev_oi (ev_call 161 38 2 1 15 1 15 (ev_recv 3) E), ev_no]
noncomputable def ev_r36_10 (E : ev_E) : List (Option (ev_I ⊕ Nat)) := [ev_no, ev_oi (ev_goto 168), ev_no, ev_no, ev_no, ev_no, ev_no, ev_no, ev_os 0, ev_no, ev_no, ev_no, ev_no, ev_no, ev_no, ev_no]
/-- 36: TextShell$Reader.atBegin(LTextShell$Frame;)V -/
noncomputable def ev_m36 (E : ev_E) : Nat → Option (ev_I ⊕ Nat) := ev_code [ev_r36_0 E, [], [], ev_r36_3 E, [], ev_r36_5 E, ev_r36_6 E, ev_r36_7 E, ev_r36_8 E, ev_r36_9 E, ev_r36_10 E]
noncomputable def ev_r37_0 (E : ev_E) : List (Option (ev_I ⊕ Nat)) := [ev_oi (ev_aload 1 0), ev_oi (ev_get 4 3 14), ev_no, ev_no, ev_oi (ev_push 6 (ev_int 16)), ev_no, ev_oi (ev_bin ev_add 7), ev_oi (ev_iload 8 1), ev_oi (ev_bin ev_add 9), ev_oi (ev_push 11 (ev_int 40000)), ev_no, ev_oi (ev_icmp 5 14 23), ev_no, ev_no, ev_no, ev_no]
noncomputable def ev_r37_1 (E : ev_E) : List (Option (ev_I ⊕ Nat)) := [ev_no, ev_no, ev_no, ev_no, ev_no, ev_no, ev_no, ev_oi (ev_aload 24 0), ev_oi (ev_dup 25), ev_oi (ev_get 28 3 14), ev_no, ev_no, ev_oi (ev_push 30 (ev_int 16)), ev_no, ev_oi (ev_iload 31 1), ev_oi (ev_bin ev_add 32)]
noncomputable def ev_r37_2 (E : ev_E) : List (Option (ev_I ⊕ Nat)) := [ev_oi (ev_bin ev_add 33), ev_oi (ev_put 36 3 14 0), ev_no, ev_no, ev_oi (ev_push 37 (ev_int 1)), ev_os 2, ev_no, ev_no, ev_no, ev_no, ev_no, ev_no, ev_no, ev_no, ev_no, ev_no]
/-- 37: TextShell$Reader.begins(I)Z -/
noncomputable def ev_m37 (E : ev_E) : Nat → Option (ev_I ⊕ Nat) := ev_code [ev_r37_0 E, ev_r37_1 E, ev_r37_2 E]
noncomputable def ev_r38_0 (E : ev_E) : List (Option (ev_I ⊕ Nat)) := [ev_oi (ev_aload 1 1), ev_oi (ev_get 4 10 0), ev_no, ev_no, ev_oi (ev_push 6 (ev_int 20)), ev_no, ev_oi (ev_icmp 0 9 18), ev_no, ev_no, ev_no, ev_no, ev_no, ev_no, ev_no, ev_no, ev_no]
noncomputable def ev_r38_1 (E : ev_E) : List (Option (ev_I ⊕ Nat)) := [ev_no, ev_no, ev_oi (ev_push 19 (ev_int 1)), ev_oi (ev_goto 23), ev_no, ev_no, ev_no, ev_oi (ev_istore 24 2), ev_oi (ev_aload 25 0), ev_oi (ev_get 28 3 16), ev_no, ev_no, ev_oi (ev_push 30 (ev_int 19)), ev_no, ev_oi (ev_icmp 1 33 52), ev_no]
noncomputable def ev_r38_2 (E : ev_E) : List (Option (ev_I ⊕ Nat)) := [ev_no, ev_oi (ev_iload 34 2), ev_oi (ev_if 0 37 52), ev_no, ev_no, ev_oi (ev_aload 38 1), ev_oi (ev_get 41 10 13), ev_no, ev_no, ev_oi (ev_ifnonnull 44 52), ev_no, ev_no, ev_oi (ev_aload 45 0), ev_oi (ev_aload 46 1), ev_oi (ev_call 49 39 2 1 15 1 15 (ev_recv 3) E), ev_no]
noncomputable def ev_r38_3 (E : ev_E) : List (Option (ev_I ⊕ Nat)) := [ev_no, ev_oi (ev_goto 174), ev_no, ev_no, ev_no, ev_no, ev_no, ev_no, ev_no, ev_no, ev_no, ev_no, ev_no, ev_no, ev_no, ev_no]
noncomputable def ev_r38_10 (E : ev_E) : List (Option (ev_I ⊕ Nat)) := [ev_no, ev_no, ev_no, ev_no, ev_no, ev_no, ev_no, ev_no, ev_no, ev_no, ev_no, ev_no, ev_no, ev_no, ev_os 0, ev_no]
/-- 38: TextShell$Reader.closeByToken(LTextShell$Frame;)V -/
noncomputable def ev_m38 (E : ev_E) : Nat → Option (ev_I ⊕ Nat) := ev_code [ev_r38_0 E, ev_r38_1 E, ev_r38_2 E, ev_r38_3 E, [], [], [], [], [], [], ev_r38_10 E]
noncomputable def ev_r39_0 (E : ev_E) : List (Option (ev_I ⊕ Nat)) := [ev_oi (ev_new 3 12 15 1 15 ev_f12), ev_no, ev_no, ev_oi (ev_dup 4), ev_oi (ev_push 6 (ev_int 15)), ev_no, ev_oi (ev_call 9 66 2 0 0 1 15 (ev_recv 12) E), ev_no, ev_no, ev_oi (ev_astore 10 2), ev_oi (ev_aload 11 2), ev_oi (ev_aload 12 1), ev_oi (ev_get 15 10 9), ev_no, ev_no, ev_oi (ev_put 18 12 10 5)]
noncomputable def ev_r39_1 (E : ev_E) : List (Option (ev_I ⊕ Nat)) := [ev_no, ev_no, ev_oi (ev_aload 19 0), ev_oi (ev_dup 20), ev_oi (ev_get 23 3 2), ev_no, ev_no, ev_oi (ev_push 24 (ev_int 1)), ev_oi (ev_bin ev_sub 25), ev_oi (ev_put 28 3 2 0), ev_no, ev_no, ev_oi (ev_aload 29 1), ev_oi (ev_get 32 10 0), ev_no, ev_no]
noncomputable def ev_r39_2 (E : ev_E) : List (Option (ev_I ⊕ Nat)) := [ev_oi (ev_push 34 (ev_int 20)), ev_no, ev_oi (ev_icmp 1 37 43), ev_no, ev_no, ev_oi (ev_aload 38 0), ev_oi (ev_aload 39 2), ev_oi (ev_put 42 3 21 5), ev_no, ev_no, ev_os 0, ev_no, ev_no, ev_no, ev_no, ev_no]
/-- 39: TextShell$Reader.endText(LTextShell$Frame;)V -/
noncomputable def ev_m39 (E : ev_E) : Nat → Option (ev_I ⊕ Nat) := ev_code [ev_r39_0 E, ev_r39_1 E, ev_r39_2 E]
noncomputable def ev_r40_0 (E : ev_E) : List (Option (ev_I ⊕ Nat)) := [ev_oi (ev_iload 1 0), ev_oi (ev_lsw [(9, 92), (10, 92), (32, 92), (38, 92), (40, 92), (41, 92), (59, 92), (60, 92), (62, 92), (124, 92)] 94), ev_no, ev_no, ev_no, ev_no, ev_no, ev_no, ev_no, ev_no, ev_no, ev_no, ev_no, ev_no, ev_no, ev_no]
noncomputable def ev_r40_5 (E : ev_E) : List (Option (ev_I ⊕ Nat)) := [ev_no, ev_no, ev_no, ev_no, ev_no, ev_no, ev_no, ev_no, ev_no, ev_no, ev_no, ev_no, ev_oi (ev_push 93 (ev_int 1)), ev_os 2, ev_no, ev_no]
/-- 40: TextShell$Reader.endsWord(I)Z -/
noncomputable def ev_m40 (E : ev_E) : Nat → Option (ev_I ⊕ Nat) := ev_code [ev_r40_0 E, [], [], [], [], ev_r40_5 E]
noncomputable def ev_r41_0 (E : ev_E) : List (Option (ev_I ⊕ Nat)) := [ev_oi (ev_aload 1 0), ev_oi (ev_get 4 3 2), ev_no, ev_no, ev_oi (ev_aload 5 0), ev_oi (ev_get 8 3 1), ev_no, ev_no, ev_oi (ev_alen 9), ev_oi (ev_icmp 2 12 69), ev_no, ev_no, ev_no, ev_no, ev_no, ev_no]
noncomputable def ev_r41_4 (E : ev_E) : List (Option (ev_I ⊕ Nat)) := [ev_no, ev_no, ev_no, ev_no, ev_no, ev_oi (ev_aload 70 0), ev_oi (ev_get 73 3 1), ev_no, ev_no, ev_oi (ev_aload 74 0), ev_oi (ev_get 77 3 2), ev_no, ev_no, ev_oi (ev_ald 78 6), ev_oi (ev_astore 80 4), ev_no]
noncomputable def ev_r41_5 (E : ev_E) : List (Option (ev_I ⊕ Nat)) := [ev_oi (ev_aload 82 4), ev_no, ev_oi (ev_ifnonnull 85 105), ev_no, ev_no, ev_oi (ev_new 88 10 19 1 19 ev_f10), ev_no, ev_no, ev_oi (ev_dup 89), ev_oi (ev_call 92 18 1 0 0 1 19 (ev_recv 10) E), ev_no, ev_no, ev_oi (ev_astore 94 4), ev_no, ev_oi (ev_aload 95 0), ev_oi (ev_get 98 3 1)]
noncomputable def ev_r41_6 (E : ev_E) : List (Option (ev_I ⊕ Nat)) := [ev_no, ev_no, ev_oi (ev_aload 99 0), ev_oi (ev_get 102 3 2), ev_no, ev_no, ev_oi (ev_aload 104 4), ev_no, ev_oi (ev_astq 105 6 10), ev_oi (ev_aload 106 0), ev_oi (ev_dup 107), ev_oi (ev_get 110 3 2), ev_no, ev_no, ev_oi (ev_push 111 (ev_int 1)), ev_oi (ev_bin ev_add 112)]
noncomputable def ev_r41_7 (E : ev_E) : List (Option (ev_I ⊕ Nat)) := [ev_oi (ev_put 115 3 2 0), ev_no, ev_no, ev_oi (ev_aload 117 4), ev_no, ev_oi (ev_iload 118 1), ev_oi (ev_iload 119 2), ev_oi (ev_aload 120 3), ev_oi (ev_ifnonnull 123 128), ev_no, ev_no, ev_oi (ev_aload 125 4), ev_no, ev_oi (ev_goto 129), ev_no, ev_no]
noncomputable def ev_r41_8 (E : ev_E) : List (Option (ev_I ⊕ Nat)) := [ev_no, ev_oi (ev_call 132 20 4 0 0 1 19 (ev_recv 10) E), ev_no, ev_no, ev_oi (ev_aload 134 4), ev_no, ev_os 5, ev_no, ev_no, ev_no, ev_no, ev_no, ev_no, ev_no, ev_no, ev_no]
/-- 41: TextShell$Reader.enter(IILTextShell$Frame;)LTextShell$Frame; -/
noncomputable def ev_m41 (E : ev_E) : Nat → Option (ev_I ⊕ Nat) := ev_code [ev_r41_0 E, [], [], [], ev_r41_4 E, ev_r41_5 E, ev_r41_6 E, ev_r41_7 E, ev_r41_8 E]
noncomputable def ev_r42_0 (E : ev_E) : List (Option (ev_I ⊕ Nat)) := [ev_oi (ev_iload 1 0), ev_oi (ev_push 3 (ev_int 10)), ev_no, ev_oi (ev_icmp 2 6 12), ev_no, ev_no, ev_oi (ev_iload 7 0), ev_oi (ev_push 9 (ev_int 16)), ev_no, ev_oi (ev_icmp 5 12 18), ev_no, ev_no, ev_oi (ev_iload 13 0), ev_oi (ev_push 15 (ev_int 18)), ev_no, ev_oi (ev_icmp 1 18 22)]
noncomputable def ev_r42_1 (E : ev_E) : List (Option (ev_I ⊕ Nat)) := [ev_no, ev_no, ev_no, ev_no, ev_no, ev_no, ev_oi (ev_push 23 (ev_int 0)), ev_os 2, ev_no, ev_no, ev_no, ev_no, ev_no, ev_no, ev_no, ev_no]
/-- 42: TextShell$Reader.isRedirection(I)Z -/
noncomputable def ev_m42 (E : ev_E) : Nat → Option (ev_I ⊕ Nat) := ev_code [ev_r42_0 E, ev_r42_1 E]
noncomputable def ev_r43_0 (E : ev_E) : List (Option (ev_I ⊕ Nat)) := [ev_oi (ev_aload 1 0), ev_oi (ev_get 4 3 3), ev_no, ev_no, ev_oi (ev_get 7 7 0), ev_no, ev_no, ev_oi (ev_astore 8 1), ev_oi (ev_aload 9 0), ev_oi (ev_get 12 3 3), ev_no, ev_no, ev_oi (ev_get 15 7 4), ev_no, ev_no, ev_oi (ev_aload 16 1)]
noncomputable def ev_r43_1 (E : ev_E) : List (Option (ev_I ⊕ Nat)) := [ev_oi (ev_get 19 0 1), ev_no, ev_no, ev_oi (ev_icmp 3 22 105), ev_no, ev_no, ev_oi (ev_aload 23 1), ev_oi (ev_aload 24 0), ev_oi (ev_get 27 3 3), ev_no, ev_no, ev_oi (ev_get 30 7 4), ev_no, ev_no, ev_oi (ev_call 33 56 2 0 0 0 0 (ev_recv 0) E), ev_no]
noncomputable def ev_r43_2 (E : ev_E) : List (Option (ev_I ⊕ Nat)) := [ev_no, ev_oi (ev_istore 34 2), ev_oi (ev_iload 35 2), ev_oi (ev_push 36 (ev_int 2)), ev_oi (ev_icmp 4 39 47), ev_no, ev_no, ev_no, ev_no, ev_no, ev_no, ev_no, ev_no, ev_no, ev_no, ev_oi (ev_iload 48 2)]
noncomputable def ev_r43_3 (E : ev_E) : List (Option (ev_I ⊕ Nat)) := [ev_oi (ev_push 50 (ev_int 92)), ev_no, ev_oi (ev_icmp 1 53 100), ev_no, ev_no, ev_no, ev_no, ev_no, ev_no, ev_no, ev_no, ev_no, ev_no, ev_no, ev_no, ev_no]
noncomputable def ev_r43_6 (E : ev_E) : List (Option (ev_I ⊕ Nat)) := [ev_no, ev_no, ev_no, ev_no, ev_oi (ev_iload 101 2), ev_os 1, ev_no, ev_no, ev_no, ev_oi (ev_push 106 (ev_int (-1))), ev_os 1, ev_no, ev_no, ev_no, ev_no, ev_no]
/-- 43: TextShell$Reader.look()I -/
noncomputable def ev_m43 (E : ev_E) : Nat → Option (ev_I ⊕ Nat) := ev_code [ev_r43_0 E, ev_r43_1 E, ev_r43_2 E, ev_r43_3 E, [], [], ev_r43_6 E]
noncomputable def ev_r44_0 (E : ev_E) : List (Option (ev_I ⊕ Nat)) := [ev_oi (ev_aload 1 1), ev_oi (ev_get 4 10 6), ev_no, ev_no, ev_oi (ev_get 7 10 13), ev_no, ev_no, ev_oi (ev_astore 8 2), ev_oi (ev_aload 9 2), ev_oi (ev_ifnull 12 35), ev_no, ev_no, ev_no, ev_no, ev_no, ev_no]
noncomputable def ev_r44_2 (E : ev_E) : List (Option (ev_I ⊕ Nat)) := [ev_no, ev_no, ev_no, ev_os 0, ev_no, ev_no, ev_no, ev_no, ev_no, ev_no, ev_no, ev_no, ev_no, ev_no, ev_no, ev_no]
/-- 44: TextShell$Reader.newline(LTextShell$Frame;)V -/
noncomputable def ev_m44 (E : ev_E) : Nat → Option (ev_I ⊕ Nat) := ev_code [ev_r44_0 E, [], ev_r44_2 E]
noncomputable def ev_r45_0 (E : ev_E) : List (Option (ev_I ⊕ Nat)) := [ev_oi (ev_aload 1 0), ev_oi (ev_aload 2 1), ev_oi (ev_get 5 10 6), ev_no, ev_no, ev_oi (ev_call 8 50 2 0 0 0 0 (ev_recv 3) E), ev_no, ev_no, ev_oi (ev_istore 9 2), ev_oi (ev_aload 10 0), ev_oi (ev_aload 11 0), ev_oi (ev_get 14 3 3), ev_no, ev_no, ev_oi (ev_get 17 7 5), ev_no]
noncomputable def ev_r45_1 (E : ev_E) : List (Option (ev_I ⊕ Nat)) := [ev_no, ev_oi (ev_put 20 3 17 0), ev_no, ev_no, ev_oi (ev_aload 21 0), ev_oi (ev_push 22 (ev_int 0)), ev_oi (ev_put 25 3 19 0), ev_no, ev_no, ev_oi (ev_aload 26 0), ev_oi (ev_call 29 43 1 0 0 0 0 (ev_recv 3) E), ev_no, ev_no, ev_oi (ev_istore 30 3), ev_oi (ev_iload 31 3), ev_oi (ev_push 32 (ev_int (-1)))]
noncomputable def ev_r45_2 (E : ev_E) : List (Option (ev_I ⊕ Nat)) := [ev_oi (ev_icmp 1 35 49), ev_no, ev_no, ev_oi (ev_aload 36 0), ev_oi (ev_push 38 (ev_int 19)), ev_no, ev_oi (ev_put 41 3 16 0), ev_no, ev_no, ev_oi (ev_aload 42 0), ev_oi (ev_push 43 (ev_int 1)), ev_oi (ev_put 46 3 15 0), ev_no, ev_no, ev_oi (ev_goto 139), ev_no]
noncomputable def ev_r45_3 (E : ev_E) : List (Option (ev_I ⊕ Nat)) := [ev_no, ev_oi (ev_iload 50 3), ev_oi (ev_call 53 40 1 0 0 0 0 ev_rc1 E), ev_no, ev_no, ev_oi (ev_if 0 56 78), ev_no, ev_no, ev_oi (ev_aload 57 0), ev_oi (ev_iload 58 3), ev_oi (ev_call 61 49 2 0 0 0 0 (ev_recv 3) E), ev_no, ev_no, ev_oi (ev_aload 62 0), ev_oi (ev_aload 63 0), ev_oi (ev_iload 64 3)]
noncomputable def ev_r45_4 (E : ev_E) : List (Option (ev_I ⊕ Nat)) := [ev_oi (ev_call 67 47 2 0 0 0 0 (ev_recv 3) E), ev_no, ev_no, ev_oi (ev_put 70 3 16 0), ev_no, ev_no, ev_oi (ev_aload 71 0), ev_oi (ev_push 72 (ev_int 1)), ev_oi (ev_put 75 3 15 0), ev_no, ev_no, ev_oi (ev_goto 139), ev_no, ev_no, ev_no, ev_no]
noncomputable def ev_r45_8 (E : ev_E) : List (Option (ev_I ⊕ Nat)) := [ev_no, ev_no, ev_no, ev_no, ev_no, ev_no, ev_no, ev_no, ev_no, ev_no, ev_no, ev_os 0, ev_no, ev_no, ev_no, ev_no]
/-- 45: TextShell$Reader.nextToken(LTextShell$Frame;)V -/
noncomputable def ev_m45 (E : ev_E) : Nat → Option (ev_I ⊕ Nat) := ev_code [ev_r45_0 E, ev_r45_1 E, ev_r45_2 E, ev_r45_3 E, ev_r45_4 E, [], [], [], ev_r45_8 E]
noncomputable def ev_r46_0 (E : ev_E) : List (Option (ev_I ⊕ Nat)) := [ev_oi (ev_aload 1 1), ev_oi (ev_push 2 (ev_int 0)), ev_oi (ev_aload 3 1), ev_oi (ev_get 6 0 1), ev_no, ev_no, ev_oi (ev_call 9 59 3 2 66 4 94 (ev_recv 0) E), ev_no, ev_no, ev_oi (ev_astore 11 4), ev_no, ev_oi (ev_aload 13 4), ev_no, ev_oi (ev_aload 15 4), ev_no, ev_oi (ev_get 18 0 1)]
noncomputable def ev_r46_1 (E : ev_E) : List (Option (ev_I ⊕ Nat)) := [ev_no, ev_no, ev_oi (ev_push 19 (ev_int 1)), ev_oi (ev_bin ev_sub 20), ev_oi (ev_call 23 56 2 0 0 4 94 (ev_recv 0) E), ev_no, ev_no, ev_oi (ev_push 25 (ev_int 10)), ev_no, ev_oi (ev_icmp 0 28 35), ev_no, ev_no, ev_oi (ev_aload 30 4), ev_no, ev_oi (ev_push 32 (ev_int 10)), ev_no]
noncomputable def ev_r46_2 (E : ev_E) : List (Option (ev_I ⊕ Nat)) := [ev_oi (ev_call 35 53 2 0 0 4 94 (ev_recv 0) E), ev_no, ev_no, ev_oi (ev_aload 36 0), ev_oi (ev_aload 38 4), ev_no, ev_oi (ev_push 39 (ev_int 1)), ev_oi (ev_aload 40 3), ev_oi (ev_push 41 ev_null), ev_oi (ev_call 44 63 4 1 9 4 94 ev_rc1 E), ev_no, ev_no, ev_oi (ev_put 47 3 3 5), ev_no, ev_no, ev_oi (ev_aload 48 0)]
noncomputable def ev_r46_3 (E : ev_E) : List (Option (ev_I ⊕ Nat)) := [ev_oi (ev_iload 49 2), ev_oi (ev_push 50 (ev_int 0)), ev_oi (ev_push 51 ev_null), ev_oi (ev_call 54 41 4 1 19 4 94 (ev_recv 3) E), ev_no, ev_no, ev_oi (ev_astore 56 5), ev_no, ev_oi (ev_aload 58 5), ev_no, ev_oi (ev_aload 59 0), ev_oi (ev_get 62 3 3), ev_no, ev_no, ev_oi (ev_put 65 10 5 5), ev_no]
noncomputable def ev_r46_4 (E : ev_E) : List (Option (ev_I ⊕ Nat)) := [ev_no, ev_oi (ev_aload 67 5), ev_no, ev_os 5, ev_no, ev_no, ev_no, ev_no, ev_no, ev_no, ev_no, ev_no, ev_no, ev_no, ev_no, ev_no]
/-- 46: TextShell$Reader.openText(LTextShell$Row;ILTextShell$Stream;)LTextShell$Frame; -/
noncomputable def ev_m46 (E : ev_E) : Nat → Option (ev_I ⊕ Nat) := ev_code [ev_r46_0 E, ev_r46_1 E, ev_r46_2 E, ev_r46_3 E, ev_r46_4 E]
noncomputable def ev_r47_0 (E : ev_E) : List (Option (ev_I ⊕ Nat)) := [ev_oi (ev_iload 1 1), ev_oi (ev_lsw [(10, 68), (38, 76), (40, 70), (41, 73), (59, 108), (62, 123), (124, 92)] 154), ev_no, ev_no, ev_no, ev_no, ev_no, ev_no, ev_no, ev_no, ev_no, ev_no, ev_no, ev_no, ev_no, ev_no]
noncomputable def ev_r47_4 (E : ev_E) : List (Option (ev_I ⊕ Nat)) := [ev_no, ev_no, ev_no, ev_no, ev_oi (ev_push 69 (ev_int 1)), ev_os 1, ev_no, ev_no, ev_no, ev_no, ev_no, ev_no, ev_no, ev_no, ev_no, ev_no]
/-- 47: TextShell$Reader.operator(I)I -/
noncomputable def ev_m47 (E : ev_E) : Nat → Option (ev_I ⊕ Nat) := ev_code [ev_r47_0 E, [], [], [], ev_r47_4 E]
noncomputable def ev_r48_0 (E : ev_E) : List (Option (ev_I ⊕ Nat)) := [ev_oi (ev_aload 1 0), ev_oi (ev_push 2 (ev_int 0)), ev_oi (ev_put 5 3 9 0), ev_no, ev_no, ev_oi (ev_aload 6 0), ev_oi (ev_push 7 (ev_int 0)), ev_oi (ev_put 10 3 10 0), ev_no, ev_no, ev_oi (ev_aload 11 0), ev_oi (ev_push 12 (ev_int 0)), ev_oi (ev_put 15 3 2 0), ev_no, ev_no, ev_oi (ev_aload 16 0)]
noncomputable def ev_r48_1 (E : ev_E) : List (Option (ev_I ⊕ Nat)) := [ev_oi (ev_push 17 (ev_int 0)), ev_oi (ev_put 20 3 5 0), ev_no, ev_no, ev_oi (ev_aload 21 0), ev_oi (ev_push 22 (ev_int 0)), ev_oi (ev_put 25 3 11 0), ev_no, ev_no, ev_oi (ev_aload 26 0), ev_oi (ev_push 27 (ev_int 0)), ev_oi (ev_put 30 3 12 0), ev_no, ev_no, ev_oi (ev_aload 31 0), ev_oi (ev_push 32 (ev_int 0))]
noncomputable def ev_r48_2 (E : ev_E) : List (Option (ev_I ⊕ Nat)) := [ev_oi (ev_put 35 3 13 0), ev_no, ev_no, ev_oi (ev_aload 36 0), ev_oi (ev_push 37 ev_null), ev_oi (ev_put 40 3 21 5), ev_no, ev_no, ev_oi (ev_aload 41 0), ev_oi (ev_aload 42 1), ev_oi (ev_get 45 0 1), ev_no, ev_no, ev_oi (ev_call 48 37 2 0 0 6 124 (ev_recv 3) E), ev_no, ev_no]
noncomputable def ev_r48_3 (E : ev_E) : List (Option (ev_I ⊕ Nat)) := [ev_oi (ev_if 0 51 60), ev_no, ev_no, ev_oi (ev_aload 52 0), ev_oi (ev_aload 53 1), ev_oi (ev_push 55 (ev_int 20)), ev_no, ev_oi (ev_push 56 ev_null), ev_oi (ev_call 59 46 4 4 94 6 124 (ev_recv 3) E), ev_no, ev_no, ev_oi (ev_pop 60), ev_oi (ev_aload 61 0), ev_oi (ev_push 62 (ev_int 0)), ev_oi (ev_put 65 3 15 0), ev_no]
noncomputable def ev_r48_4 (E : ev_E) : List (Option (ev_I ⊕ Nat)) := [ev_no, ev_oi (ev_push 66 (ev_int 0)), ev_oi (ev_istore 67 2), ev_oi (ev_iload 68 2), ev_oi (ev_push 70 (ev_int 10000000)), ev_no, ev_oi (ev_icmp 3 73 198), ev_no, ev_no, ev_oi (ev_aload 74 0), ev_oi (ev_get 77 3 9), ev_no, ev_no, ev_oi (ev_if 1 80 198), ev_no, ev_no]
noncomputable def ev_r48_5 (E : ev_E) : List (Option (ev_I ⊕ Nat)) := [ev_oi (ev_aload 81 0), ev_oi (ev_get 84 3 2), ev_no, ev_no, ev_oi (ev_if 5 87 198), ev_no, ev_no, ev_oi (ev_aload 88 0), ev_oi (ev_call 91 51 1 0 0 6 124 (ev_recv 3) E), ev_no, ev_no, ev_oi (ev_astore 92 3), ev_oi (ev_aload 93 0), ev_oi (ev_get 96 3 15), ev_no, ev_no]
noncomputable def ev_r48_6 (E : ev_E) : List (Option (ev_I ⊕ Nat)) := [ev_oi (ev_istore 98 4), ev_no, ev_oi (ev_aload 99 0), ev_oi (ev_push 100 (ev_int 0)), ev_oi (ev_put 103 3 15 0), ev_no, ev_no, ev_oi (ev_iload 105 4), ev_no, ev_oi (ev_push 106 (ev_int 1)), ev_oi (ev_icmp 1 109 117), ev_no, ev_no, ev_oi (ev_aload 110 0), ev_oi (ev_aload 111 3), ev_oi (ev_call 114 35 2 1 15 6 124 (ev_recv 3) E)]
noncomputable def ev_r48_7 (E : ev_E) : List (Option (ev_I ⊕ Nat)) := [ev_no, ev_no, ev_oi (ev_goto 192), ev_no, ev_no, ev_oi (ev_iload 119 4), ev_no, ev_oi (ev_push 120 (ev_int 2)), ev_oi (ev_icmp 1 123 136), ev_no, ev_no, ev_no, ev_no, ev_no, ev_no, ev_no]
noncomputable def ev_r48_8 (E : ev_E) : List (Option (ev_I ⊕ Nat)) := [ev_no, ev_no, ev_no, ev_no, ev_no, ev_no, ev_no, ev_no, ev_oi (ev_aload 137 3), ev_oi (ev_get 140 10 0), ev_no, ev_no, ev_oi (ev_push 142 (ev_int 23)), ev_no, ev_oi (ev_icmp 3 145 153), ev_no]
noncomputable def ev_r48_9 (E : ev_E) : List (Option (ev_I ⊕ Nat)) := [ev_no, ev_oi (ev_aload 146 0), ev_oi (ev_aload 147 3), ev_oi (ev_call 150 45 2 0 0 6 124 (ev_recv 3) E), ev_no, ev_no, ev_oi (ev_goto 192), ev_no, ev_no, ev_no, ev_no, ev_no, ev_no, ev_no, ev_no, ev_no]
noncomputable def ev_r48_12 (E : ev_E) : List (Option (ev_I ⊕ Nat)) := [ev_oi (ev_iinc 195 2 1), ev_no, ev_no, ev_oi (ev_goto 67), ev_no, ev_no, ev_oi (ev_aload 199 0), ev_oi (ev_get 202 3 9), ev_no, ev_no, ev_oi (ev_if 1 205 216), ev_no, ev_no, ev_oi (ev_aload 206 0), ev_oi (ev_get 209 3 21), ev_no]
noncomputable def ev_r48_13 (E : ev_E) : List (Option (ev_I ⊕ Nat)) := [ev_no, ev_oi (ev_ifnull 212 216), ev_no, ev_no, ev_oi (ev_push 213 (ev_int 1)), ev_oi (ev_goto 217), ev_no, ev_no, ev_no, ev_os 2, ev_no, ev_no, ev_no, ev_no, ev_no, ev_no]
/-- 48: TextShell$Reader.parse(LTextShell$Row;)Z -/
noncomputable def ev_m48 (E : ev_E) : Nat → Option (ev_I ⊕ Nat) := ev_code [ev_r48_0 E, ev_r48_1 E, ev_r48_2 E, ev_r48_3 E, ev_r48_4 E, ev_r48_5 E, ev_r48_6 E, ev_r48_7 E, ev_r48_8 E, ev_r48_9 E, [], [], ev_r48_12 E, ev_r48_13 E]
noncomputable def ev_r49_0 (E : ev_E) : List (Option (ev_I ⊕ Nat)) := [ev_oi (ev_aload 1 0), ev_oi (ev_get 4 3 3), ev_no, ev_no, ev_oi (ev_dup 5), ev_oi (ev_get 8 7 4), ev_no, ev_no, ev_oi (ev_push 9 (ev_int 1)), ev_oi (ev_bin ev_add 10), ev_oi (ev_put 13 7 4 0), ev_no, ev_no, ev_oi (ev_iload 14 1), ev_oi (ev_push 16 (ev_int 10)), ev_no]
noncomputable def ev_r49_1 (E : ev_E) : List (Option (ev_I ⊕ Nat)) := [ev_oi (ev_icmp 0 19 24), ev_no, ev_no, ev_no, ev_no, ev_no, ev_no, ev_no, ev_oi (ev_aload 25 0), ev_oi (ev_get 28 3 3), ev_no, ev_no, ev_oi (ev_dup 29), ev_oi (ev_get 32 7 5), ev_no, ev_no]
noncomputable def ev_r49_2 (E : ev_E) : List (Option (ev_I ⊕ Nat)) := [ev_oi (ev_push 33 (ev_int 1)), ev_oi (ev_bin ev_add 34), ev_oi (ev_put 37 7 5 0), ev_no, ev_no, ev_os 0, ev_no, ev_no, ev_no, ev_no, ev_no, ev_no, ev_no, ev_no, ev_no, ev_no]
/-- 49: TextShell$Reader.pass(I)V -/
noncomputable def ev_m49 (E : ev_E) : Nat → Option (ev_I ⊕ Nat) := ev_code [ev_r49_0 E, ev_r49_1 E, ev_r49_2 E]
noncomputable def ev_r50_0 (E : ev_E) : List (Option (ev_I ⊕ Nat)) := [ev_oi (ev_push 1 (ev_int 0)), ev_oi (ev_istore 2 2), ev_oi (ev_push 3 (ev_int 0)), ev_oi (ev_istore 4 3), ev_oi (ev_iload 5 3), ev_oi (ev_push 7 (ev_int 10000000)), ev_no, ev_oi (ev_icmp 3 10 211), ev_no, ev_no, ev_oi (ev_aload 11 0), ev_oi (ev_call 14 43 1 0 0 0 0 (ev_recv 3) E), ev_no, ev_no, ev_oi (ev_istore 16 4), ev_no]
noncomputable def ev_r50_1 (E : ev_E) : List (Option (ev_I ⊕ Nat)) := [ev_oi (ev_iload 18 4), ev_no, ev_oi (ev_push 20 (ev_int 32)), ev_no, ev_oi (ev_icmp 0 23 30), ev_no, ev_no, ev_oi (ev_iload 25 4), ev_no, ev_oi (ev_push 27 (ev_int 9)), ev_no, ev_oi (ev_icmp 1 30 39), ev_no, ev_no, ev_no, ev_no]
noncomputable def ev_r50_2 (E : ev_E) : List (Option (ev_I ⊕ Nat)) := [ev_no, ev_no, ev_no, ev_no, ev_no, ev_no, ev_no, ev_oi (ev_iload 41 4), ev_no, ev_oi (ev_push 43 (ev_int 35)), ev_no, ev_oi (ev_icmp 1 46 104), ev_no, ev_no, ev_no, ev_no]
noncomputable def ev_r50_6 (E : ev_E) : List (Option (ev_I ⊕ Nat)) := [ev_no, ev_no, ev_no, ev_no, ev_no, ev_no, ev_no, ev_no, ev_oi (ev_iload 106 4), ev_no, ev_oi (ev_push 107 (ev_int (-1))), ev_oi (ev_icmp 1 110 203), ev_no, ev_no, ev_oi (ev_aload 111 0), ev_oi (ev_get 114 3 3)]
noncomputable def ev_r50_7 (E : ev_E) : List (Option (ev_I ⊕ Nat)) := [ev_no, ev_no, ev_oi (ev_get 117 7 7), ev_no, ev_no, ev_oi (ev_ifnull 120 203), ev_no, ev_no, ev_no, ev_no, ev_no, ev_no, ev_no, ev_no, ev_no, ev_no]
noncomputable def ev_r50_12 (E : ev_E) : List (Option (ev_I ⊕ Nat)) := [ev_no, ev_no, ev_no, ev_no, ev_no, ev_no, ev_no, ev_no, ev_no, ev_no, ev_no, ev_oi (ev_iload 204 2), ev_os 2, ev_no, ev_no, ev_no]
/-- 50: TextShell$Reader.skipBlanks(LTextShell$Frame;)Z -/
noncomputable def ev_m50 (E : ev_E) : Nat → Option (ev_I ⊕ Nat) := ev_code [ev_r50_0 E, ev_r50_1 E, ev_r50_2 E, [], [], [], ev_r50_6 E, ev_r50_7 E, [], [], [], [], ev_r50_12 E]
noncomputable def ev_r51_0 (E : ev_E) : List (Option (ev_I ⊕ Nat)) := [ev_oi (ev_aload 1 0), ev_oi (ev_get 4 3 1), ev_no, ev_no, ev_oi (ev_aload 5 0), ev_oi (ev_get 8 3 2), ev_no, ev_no, ev_oi (ev_if 5 11 20), ev_no, ev_no, ev_oi (ev_aload 12 0), ev_oi (ev_get 15 3 2), ev_no, ev_no, ev_oi (ev_push 16 (ev_int 1))]
noncomputable def ev_r51_1 (E : ev_E) : List (Option (ev_I ⊕ Nat)) := [ev_oi (ev_bin ev_sub 17), ev_oi (ev_goto 21), ev_no, ev_no, ev_no, ev_oi (ev_ald 22 6), ev_os 5, ev_no, ev_no, ev_no, ev_no, ev_no, ev_no, ev_no, ev_no, ev_no]
/-- 51: TextShell$Reader.top()LTextShell$Frame; -/
noncomputable def ev_m51 (E : ev_E) : Nat → Option (ev_I ⊕ Nat) := ev_code [ev_r51_0 E, ev_r51_1 E]
noncomputable def ev_r52_0 (E : ev_E) : List (Option (ev_I ⊕ Nat)) := [ev_oi (ev_aload 1 0), ev_oi (ev_objinit 4), ev_no, ev_no, ev_oi (ev_aload 5 0), ev_oi (ev_iload 6 1), ev_oi (ev_if 5 9 13), ev_no, ev_no, ev_oi (ev_iload 10 1), ev_oi (ev_goto 14), ev_no, ev_no, ev_oi (ev_push 14 (ev_int 1)), ev_oi (ev_newa 16 5 0 1 64), ev_no]
noncomputable def ev_r52_1 (E : ev_E) : List (Option (ev_I ⊕ Nat)) := [ev_oi (ev_put 19 0 0 5), ev_no, ev_no, ev_os 0, ev_no, ev_no, ev_no, ev_no, ev_no, ev_no, ev_no, ev_no, ev_no, ev_no, ev_no, ev_no]
/-- 52: TextShell$Row.<init>(I)V -/
noncomputable def ev_m52 (E : ev_E) : Nat → Option (ev_I ⊕ Nat) := ev_code [ev_r52_0 E, ev_r52_1 E]
noncomputable def ev_r53_0 (E : ev_E) : List (Option (ev_I ⊕ Nat)) := [ev_oi (ev_aload 1 0), ev_oi (ev_get 4 0 1), ev_no, ev_no, ev_oi (ev_aload 5 0), ev_oi (ev_get 8 0 0), ev_no, ev_no, ev_oi (ev_alen 9), ev_oi (ev_icmp 2 12 42), ev_no, ev_no, ev_no, ev_no, ev_no, ev_no]
noncomputable def ev_r53_2 (E : ev_E) : List (Option (ev_I ⊕ Nat)) := [ev_no, ev_no, ev_no, ev_no, ev_no, ev_no, ev_no, ev_no, ev_no, ev_no, ev_oi (ev_aload 43 0), ev_oi (ev_get 46 0 1), ev_no, ev_no, ev_oi (ev_if 2 49 82), ev_no]
noncomputable def ev_r53_3 (E : ev_E) : List (Option (ev_I ⊕ Nat)) := [ev_no, ev_oi (ev_aload 50 0), ev_oi (ev_get 53 0 1), ev_no, ev_no, ev_oi (ev_aload 54 0), ev_oi (ev_get 57 0 0), ev_no, ev_no, ev_oi (ev_alen 58), ev_oi (ev_icmp 3 61 82), ev_no, ev_no, ev_oi (ev_aload 62 0), ev_oi (ev_get 65 0 0), ev_no]
noncomputable def ev_r53_4 (E : ev_E) : List (Option (ev_I ⊕ Nat)) := [ev_no, ev_oi (ev_aload 66 0), ev_oi (ev_get 69 0 1), ev_no, ev_no, ev_oi (ev_iload 70 1), ev_oi (ev_un ev_c16 0 65535 71), ev_oi (ev_ast 72 5 3), ev_oi (ev_aload 73 0), ev_oi (ev_dup 74), ev_oi (ev_get 77 0 1), ev_no, ev_no, ev_oi (ev_push 78 (ev_int 1)), ev_oi (ev_bin ev_add 79), ev_oi (ev_put 82 0 1 0)]
noncomputable def ev_r53_5 (E : ev_E) : List (Option (ev_I ⊕ Nat)) := [ev_no, ev_no, ev_os 0, ev_no, ev_no, ev_no, ev_no, ev_no, ev_no, ev_no, ev_no, ev_no, ev_no, ev_no, ev_no, ev_no]
/-- 53: TextShell$Row.add(I)V -/
noncomputable def ev_m53 (E : ev_E) : Nat → Option (ev_I ⊕ Nat) := ev_code [ev_r53_0 E, [], ev_r53_2 E, ev_r53_3 E, ev_r53_4 E, ev_r53_5 E]
noncomputable def ev_r54_0 (E : ev_E) : List (Option (ev_I ⊕ Nat)) := [ev_oi (ev_iload 1 2), ev_oi (ev_istore 3 4), ev_no, ev_oi (ev_iload 5 4), ev_no, ev_oi (ev_iload 6 3), ev_oi (ev_icmp 3 9 25), ev_no, ev_no, ev_no, ev_no, ev_no, ev_no, ev_no, ev_no, ev_no]
noncomputable def ev_r54_1 (E : ev_E) : List (Option (ev_I ⊕ Nat)) := [ev_no, ev_no, ev_no, ev_no, ev_no, ev_no, ev_no, ev_no, ev_no, ev_os 0, ev_no, ev_no, ev_no, ev_no, ev_no, ev_no]
/-- 54: TextShell$Row.addPart(LTextShell$Row;II)V -/
noncomputable def ev_m54 (E : ev_E) : Nat → Option (ev_I ⊕ Nat) := ev_code [ev_r54_0 E, ev_r54_1 E]
noncomputable def ev_r55_0 (E : ev_E) : List (Option (ev_I ⊕ Nat)) := [ev_oi (ev_push 1 (ev_int 0)), ev_oi (ev_istore 2 2), ev_oi (ev_iload 3 2), ev_oi (ev_aload 4 1), ev_oi (ev_call 7 126 1 0 0 0 0 ev_rclit E), ev_no, ev_no, ev_oi (ev_icmp 3 10 25), ev_no, ev_no, ev_oi (ev_aload 11 0), ev_oi (ev_aload 12 1), ev_oi (ev_iload 13 2), ev_oi (ev_call 16 122 2 0 0 0 0 ev_rclit E), ev_no, ev_no]
noncomputable def ev_r55_1 (E : ev_E) : List (Option (ev_I ⊕ Nat)) := [ev_oi (ev_call 19 53 2 0 0 0 0 (ev_recv 0) E), ev_no, ev_no, ev_oi (ev_iinc 22 2 1), ev_no, ev_no, ev_oi (ev_goto 2), ev_no, ev_no, ev_os 0, ev_no, ev_no, ev_no, ev_no, ev_no, ev_no]
/-- 55: TextShell$Row.addText(Ljava/lang/String;)V -/
noncomputable def ev_m55 (E : ev_E) : Nat → Option (ev_I ⊕ Nat) := ev_code [ev_r55_0 E, ev_r55_1 E]
noncomputable def ev_r56_0 (E : ev_E) : List (Option (ev_I ⊕ Nat)) := [ev_oi (ev_iload 1 1), ev_oi (ev_if 2 4 30), ev_no, ev_no, ev_oi (ev_iload 5 1), ev_oi (ev_aload 6 0), ev_oi (ev_get 9 0 1), ev_no, ev_no, ev_oi (ev_icmp 3 12 30), ev_no, ev_no, ev_oi (ev_iload 13 1), ev_oi (ev_aload 14 0), ev_oi (ev_get 17 0 0), ev_no]
noncomputable def ev_r56_1 (E : ev_E) : List (Option (ev_I ⊕ Nat)) := [ev_no, ev_oi (ev_alen 18), ev_oi (ev_icmp 3 21 30), ev_no, ev_no, ev_oi (ev_aload 22 0), ev_oi (ev_get 25 0 0), ev_no, ev_no, ev_oi (ev_iload 26 1), ev_oi (ev_ald 27 5), ev_oi (ev_goto 31), ev_no, ev_no, ev_oi (ev_push 31 (ev_int (-1))), ev_os 1]
/-- 56: TextShell$Row.at(I)I -/
noncomputable def ev_m56 (E : ev_E) : Nat → Option (ev_I ⊕ Nat) := ev_code [ev_r56_0 E, ev_r56_1 E]
noncomputable def ev_r57_0 (E : ev_E) : List (Option (ev_I ⊕ Nat)) := [ev_oi (ev_aload 1 0), ev_oi (ev_aload 2 0), ev_oi (ev_get 5 0 1), ev_no, ev_no, ev_oi (ev_call 8 58 2 0 0 0 0 (ev_recv 0) E), ev_no, ev_no, ev_os 2, ev_no, ev_no, ev_no, ev_no, ev_no, ev_no, ev_no]
/-- 57: TextShell$Row.isName()Z -/
noncomputable def ev_m57 (E : ev_E) : Nat → Option (ev_I ⊕ Nat) := ev_code [ev_r57_0 E]
noncomputable def ev_r58_0 (E : ev_E) : List (Option (ev_I ⊕ Nat)) := [ev_oi (ev_iload 1 1), ev_oi (ev_push 2 (ev_int 1)), ev_oi (ev_icmp 2 5 16), ev_no, ev_no, ev_no, ev_no, ev_no, ev_no, ev_no, ev_no, ev_no, ev_no, ev_no, ev_no, ev_no]
noncomputable def ev_r58_1 (E : ev_E) : List (Option (ev_I ⊕ Nat)) := [ev_oi (ev_push 17 (ev_int 0)), ev_os 2, ev_no, ev_no, ev_no, ev_no, ev_no, ev_no, ev_no, ev_no, ev_no, ev_no, ev_no, ev_no, ev_no, ev_no]
/-- 58: TextShell$Row.isNameUpTo(I)Z -/
noncomputable def ev_m58 (E : ev_E) : Nat → Option (ev_I ⊕ Nat) := ev_code [ev_r58_0 E, ev_r58_1 E]
noncomputable def ev_r59_0 (E : ev_E) : List (Option (ev_I ⊕ Nat)) := [ev_oi (ev_new 3 0 2 2 66 ev_f0), ev_no, ev_no, ev_oi (ev_dup 4), ev_oi (ev_iload 5 2), ev_oi (ev_iload 6 1), ev_oi (ev_bin ev_sub 7), ev_oi (ev_call 10 52 2 1 64 2 66 (ev_recv 0) E), ev_no, ev_no, ev_oi (ev_astore 11 3), ev_oi (ev_iload 12 1), ev_oi (ev_istore 14 4), ev_no, ev_oi (ev_iload 16 4), ev_no]
noncomputable def ev_r59_1 (E : ev_E) : List (Option (ev_I ⊕ Nat)) := [ev_oi (ev_iload 17 2), ev_oi (ev_icmp 3 20 79), ev_no, ev_no, ev_oi (ev_iload 22 4), ev_no, ev_oi (ev_if 2 25 79), ev_no, ev_no, ev_oi (ev_iload 27 4), ev_no, ev_oi (ev_aload 28 0), ev_oi (ev_get 31 0 0), ev_no, ev_no, ev_oi (ev_alen 32)]
noncomputable def ev_r59_2 (E : ev_E) : List (Option (ev_I ⊕ Nat)) := [ev_oi (ev_icmp 3 35 79), ev_no, ev_no, ev_oi (ev_iload 37 4), ev_no, ev_oi (ev_iload 38 1), ev_oi (ev_bin ev_sub 39), ev_oi (ev_aload 40 3), ev_oi (ev_get 43 0 0), ev_no, ev_no, ev_oi (ev_alen 44), ev_oi (ev_icmp 3 47 79), ev_no, ev_no, ev_oi (ev_aload 48 3)]
noncomputable def ev_r59_3 (E : ev_E) : List (Option (ev_I ⊕ Nat)) := [ev_oi (ev_get 51 0 0), ev_no, ev_no, ev_oi (ev_iload 53 4), ev_no, ev_oi (ev_iload 54 1), ev_oi (ev_bin ev_sub 55), ev_oi (ev_aload 56 0), ev_oi (ev_get 59 0 0), ev_no, ev_no, ev_oi (ev_iload 61 4), ev_no, ev_oi (ev_ald 62 5), ev_oi (ev_ast 63 5 3), ev_oi (ev_aload 64 3)]
noncomputable def ev_r59_4 (E : ev_E) : List (Option (ev_I ⊕ Nat)) := [ev_oi (ev_dup 65), ev_oi (ev_get 68 0 1), ev_no, ev_no, ev_oi (ev_push 69 (ev_int 1)), ev_oi (ev_bin ev_add 70), ev_oi (ev_put 73 0 1 0), ev_no, ev_no, ev_oi (ev_iinc 76 4 1), ev_no, ev_no, ev_oi (ev_goto 14), ev_no, ev_no, ev_oi (ev_aload 80 3)]
noncomputable def ev_r59_5 (E : ev_E) : List (Option (ev_I ⊕ Nat)) := [ev_os 5, ev_no, ev_no, ev_no, ev_no, ev_no, ev_no, ev_no, ev_no, ev_no, ev_no, ev_no, ev_no, ev_no, ev_no, ev_no]
/-- 59: TextShell$Row.part(II)LTextShell$Row; -/
noncomputable def ev_m59 (E : ev_E) : Nat → Option (ev_I ⊕ Nat) := ev_code [ev_r59_0 E, ev_r59_1 E, ev_r59_2 E, ev_r59_3 E, ev_r59_4 E, ev_r59_5 E]
noncomputable def ev_r60_0 (E : ev_E) : List (Option (ev_I ⊕ Nat)) := [ev_oi (ev_aload 1 1), ev_oi (ev_ifnull 4 15), ev_no, ev_no, ev_oi (ev_aload 5 1), ev_oi (ev_get 8 0 1), ev_no, ev_no, ev_oi (ev_aload 9 0), ev_oi (ev_get 12 0 1), ev_no, ev_no, ev_oi (ev_icmp 0 15 17), ev_no, ev_no, ev_oi (ev_push 16 (ev_int 0))]
noncomputable def ev_r60_1 (E : ev_E) : List (Option (ev_I ⊕ Nat)) := [ev_os 2, ev_oi (ev_push 18 (ev_int 0)), ev_oi (ev_istore 19 2), ev_oi (ev_iload 20 2), ev_oi (ev_aload 21 0), ev_oi (ev_get 24 0 1), ev_no, ev_no, ev_oi (ev_icmp 3 27 68), ev_no, ev_no, ev_oi (ev_iload 28 2), ev_oi (ev_aload 29 0), ev_oi (ev_get 32 0 0), ev_no, ev_no]
noncomputable def ev_r60_2 (E : ev_E) : List (Option (ev_I ⊕ Nat)) := [ev_oi (ev_alen 33), ev_oi (ev_icmp 3 36 68), ev_no, ev_no, ev_oi (ev_iload 37 2), ev_oi (ev_aload 38 1), ev_oi (ev_get 41 0 0), ev_no, ev_no, ev_oi (ev_alen 42), ev_oi (ev_icmp 3 45 68), ev_no, ev_no, ev_oi (ev_aload 46 0), ev_oi (ev_get 49 0 0), ev_no]
noncomputable def ev_r60_3 (E : ev_E) : List (Option (ev_I ⊕ Nat)) := [ev_no, ev_oi (ev_iload 50 2), ev_oi (ev_ald 51 5), ev_oi (ev_aload 52 1), ev_oi (ev_get 55 0 0), ev_no, ev_no, ev_oi (ev_iload 56 2), ev_oi (ev_ald 57 5), ev_oi (ev_icmp 0 60 62), ev_no, ev_no, ev_oi (ev_push 61 (ev_int 0)), ev_os 2, ev_no, ev_no]
/-- 60: TextShell$Row.same(LTextShell$Row;)Z -/
noncomputable def ev_m60 (E : ev_E) : Nat → Option (ev_I ⊕ Nat) := ev_code [ev_r60_0 E, ev_r60_1 E, ev_r60_2 E, ev_r60_3 E]
noncomputable def ev_r61_0 (E : ev_E) : List (Option (ev_I ⊕ Nat)) := [ev_oi (ev_aload 1 0), ev_oi (ev_objinit 4), ev_no, ev_no, ev_oi (ev_aload 5 0), ev_oi (ev_push 6 (ev_int 3)), ev_oi (ev_newa 9 0 2 17 365), ev_no, ev_no, ev_oi (ev_put 12 4 4 5), ev_no, ev_no, ev_oi (ev_aload 13 0), ev_oi (ev_push 14 (ev_int 3)), ev_oi (ev_newa 17 0 2 17 365), ev_no]
noncomputable def ev_r61_1 (E : ev_E) : List (Option (ev_I ⊕ Nat)) := [ev_no, ev_oi (ev_put 20 4 5 5), ev_no, ev_no, ev_oi (ev_aload 21 0), ev_oi (ev_new 24 7 9 17 365 ev_f7), ev_no, ev_no, ev_oi (ev_dup 25), ev_oi (ev_push 26 ev_null), ev_oi (ev_push 27 ev_null), ev_oi (ev_push 28 (ev_int 1)), ev_oi (ev_push 29 (ev_int 0)), ev_oi (ev_call 32 62 5 0 0 17 365 (ev_recv 7) E), ev_no, ev_no]
noncomputable def ev_r61_2 (E : ev_E) : List (Option (ev_I ⊕ Nat)) := [ev_oi (ev_put 35 4 6 5), ev_no, ev_no, ev_oi (ev_aload 36 0), ev_oi (ev_push 38 (ev_int 16)), ev_no, ev_oi (ev_newa 41 0 2 17 365), ev_no, ev_no, ev_oi (ev_put 44 4 7 5), ev_no, ev_no, ev_oi (ev_aload 45 0), ev_oi (ev_push 47 (ev_int 16)), ev_no, ev_oi (ev_newa 49 1 0 17 365)]
noncomputable def ev_r61_3 (E : ev_E) : List (Option (ev_I ⊕ Nat)) := [ev_no, ev_oi (ev_put 52 4 8 5), ev_no, ev_no, ev_oi (ev_aload 53 0), ev_oi (ev_push 55 (ev_int 16)), ev_no, ev_oi (ev_newa 58 4 2 17 365), ev_no, ev_no, ev_oi (ev_put 61 4 10 5), ev_no, ev_no, ev_oi (ev_aload 62 0), ev_oi (ev_push 64 (ev_int 16)), ev_no]
noncomputable def ev_r61_4 (E : ev_E) : List (Option (ev_I ⊕ Nat)) := [ev_oi (ev_newa 67 2 2 17 365), ev_no, ev_no, ev_oi (ev_put 70 4 11 5), ev_no, ev_no, ev_oi (ev_aload 71 0), ev_oi (ev_push 72 (ev_int (-1))), ev_oi (ev_put 75 4 22 0), ev_no, ev_no, ev_oi (ev_aload 76 0), ev_oi (ev_push 78 (ev_int 61)), ev_no, ev_oi (ev_newa 81 0 2 17 365), ev_no]
noncomputable def ev_r61_5 (E : ev_E) : List (Option (ev_I ⊕ Nat)) := [ev_no, ev_oi (ev_put 84 4 23 5), ev_no, ev_no, ev_oi (ev_aload 85 0), ev_oi (ev_aload 86 1), ev_oi (ev_put 89 4 0 5), ev_no, ev_no, ev_oi (ev_aload 90 0), ev_oi (ev_aload 91 2), ev_oi (ev_put 94 4 1 5), ev_no, ev_no, ev_oi (ev_aload 95 0), ev_oi (ev_get 98 4 4)]
noncomputable def ev_r61_6 (E : ev_E) : List (Option (ev_I ⊕ Nat)) := [ev_no, ev_no, ev_oi (ev_push 99 (ev_int 0)), ev_oi (ev_new 102 7 9 17 365 ev_f7), ev_no, ev_no, ev_oi (ev_dup 103), ev_oi (ev_new 106 0 2 17 365 ev_f0), ev_no, ev_no, ev_oi (ev_dup 107), ev_oi (ev_push 109 (ev_int 64)), ev_no, ev_oi (ev_call 112 52 2 1 64 17 365 (ev_recv 0) E), ev_no, ev_no]
noncomputable def ev_r61_7 (E : ev_E) : List (Option (ev_I ⊕ Nat)) := [ev_oi (ev_push 113 ev_null), ev_oi (ev_push 114 (ev_int 1)), ev_oi (ev_push 115 (ev_int 0)), ev_oi (ev_call 118 62 5 0 0 17 365 (ev_recv 7) E), ev_no, ev_no, ev_oi (ev_astq 119 0 7), ev_oi (ev_aload 120 0), ev_oi (ev_get 123 4 4), ev_no, ev_no, ev_oi (ev_push 124 (ev_int 1)), ev_oi (ev_new 127 7 9 17 365 ev_f7), ev_no, ev_no, ev_oi (ev_dup 128)]
noncomputable def ev_r61_8 (E : ev_E) : List (Option (ev_I ⊕ Nat)) := [ev_oi (ev_new 131 0 2 17 365 ev_f0), ev_no, ev_no, ev_oi (ev_dup 132), ev_oi (ev_push 134 (ev_int 64)), ev_no, ev_oi (ev_call 137 52 2 1 64 17 365 (ev_recv 0) E), ev_no, ev_no, ev_oi (ev_push 138 ev_null), ev_oi (ev_push 139 (ev_int 0)), ev_oi (ev_push 141 (ev_int 65536)), ev_no, ev_oi (ev_call 144 62 5 0 0 17 365 (ev_recv 7) E), ev_no, ev_no]
noncomputable def ev_r61_9 (E : ev_E) : List (Option (ev_I ⊕ Nat)) := [ev_oi (ev_astq 145 0 7), ev_oi (ev_aload 146 0), ev_oi (ev_get 149 4 4), ev_no, ev_no, ev_oi (ev_push 150 (ev_int 2)), ev_oi (ev_new 153 7 9 17 365 ev_f7), ev_no, ev_no, ev_oi (ev_dup 154), ev_oi (ev_new 157 0 2 17 365 ev_f0), ev_no, ev_no, ev_oi (ev_dup 158), ev_oi (ev_push 160 (ev_int 64)), ev_no]
noncomputable def ev_r61_10 (E : ev_E) : List (Option (ev_I ⊕ Nat)) := [ev_oi (ev_call 163 52 2 1 64 17 365 (ev_recv 0) E), ev_no, ev_no, ev_oi (ev_push 164 ev_null), ev_oi (ev_push 165 (ev_int 0)), ev_oi (ev_push 167 (ev_int 65536)), ev_no, ev_oi (ev_call 170 62 5 0 0 17 365 (ev_recv 7) E), ev_no, ev_no, ev_oi (ev_astq 171 0 7), ev_os 0, ev_no, ev_no, ev_no, ev_no]
/-- 61: TextShell$Shell.<init>(LTextShell$Memory;LTextShell$Reader;)V -/
noncomputable def ev_m61 (E : ev_E) : Nat → Option (ev_I ⊕ Nat) := ev_code [ev_r61_0 E, ev_r61_1 E, ev_r61_2 E, ev_r61_3 E, ev_r61_4 E, ev_r61_5 E, ev_r61_6 E, ev_r61_7 E, ev_r61_8 E, ev_r61_9 E, ev_r61_10 E]
noncomputable def ev_r62_0 (E : ev_E) : List (Option (ev_I ⊕ Nat)) := [ev_oi (ev_aload 1 0), ev_oi (ev_objinit 4), ev_no, ev_no, ev_oi (ev_aload 5 0), ev_oi (ev_aload 6 1), ev_oi (ev_put 9 7 0 5), ev_no, ev_no, ev_oi (ev_aload 10 0), ev_oi (ev_aload 11 2), ev_oi (ev_put 14 7 1 5), ev_no, ev_no, ev_oi (ev_aload 15 0), ev_oi (ev_iload 16 3)]
noncomputable def ev_r62_1 (E : ev_E) : List (Option (ev_I ⊕ Nat)) := [ev_oi (ev_put 19 7 2 1), ev_no, ev_no, ev_oi (ev_aload 20 0), ev_oi (ev_iload 22 4), ev_no, ev_oi (ev_put 25 7 3 0), ev_no, ev_no, ev_os 0, ev_no, ev_no, ev_no, ev_no, ev_no, ev_no]
/-- 62: TextShell$Stream.<init>(LTextShell$Row;LTextShell$Node;ZI)V -/
noncomputable def ev_m62 (E : ev_E) : Nat → Option (ev_I ⊕ Nat) := ev_code [ev_r62_0 E, ev_r62_1 E]
noncomputable def ev_r63_0 (E : ev_E) : List (Option (ev_I ⊕ Nat)) := [ev_oi (ev_new 3 7 9 1 9 ev_f7), ev_no, ev_no, ev_oi (ev_dup 4), ev_oi (ev_aload 5 0), ev_oi (ev_push 6 ev_null), ev_oi (ev_push 7 (ev_int 1)), ev_oi (ev_push 8 (ev_int 0)), ev_oi (ev_call 11 62 5 0 0 1 9 (ev_recv 7) E), ev_no, ev_no, ev_oi (ev_astore 13 4), ev_no, ev_oi (ev_aload 15 4), ev_no, ev_oi (ev_iload 16 1)]
noncomputable def ev_r63_1 (E : ev_E) : List (Option (ev_I ⊕ Nat)) := [ev_oi (ev_put 19 7 5 0), ev_no, ev_no, ev_oi (ev_aload 21 4), ev_no, ev_oi (ev_aload 22 2), ev_oi (ev_put 25 7 6 5), ev_no, ev_no, ev_oi (ev_aload 27 4), ev_no, ev_oi (ev_aload 28 3), ev_oi (ev_put 31 7 7 5), ev_no, ev_no, ev_oi (ev_aload 33 4)]
noncomputable def ev_r63_2 (E : ev_E) : List (Option (ev_I ⊕ Nat)) := [ev_no, ev_oi (ev_aload 34 2), ev_oi (ev_ifnonnull 37 41), ev_no, ev_no, ev_oi (ev_push 38 (ev_int 0)), ev_oi (ev_goto 45), ev_no, ev_no, ev_no, ev_no, ev_no, ev_no, ev_oi (ev_aload 46 3), ev_oi (ev_ifnonnull 49 53), ev_no]
noncomputable def ev_r63_3 (E : ev_E) : List (Option (ev_I ⊕ Nat)) := [ev_no, ev_oi (ev_push 50 (ev_int 0)), ev_oi (ev_goto 54), ev_no, ev_no, ev_no, ev_oi (ev_bin ev_add 55), ev_oi (ev_put 58 7 8 0), ev_no, ev_no, ev_oi (ev_aload 60 4), ev_no, ev_os 5, ev_no, ev_no, ev_no]
/-- 63: TextShell$Stream.text(LTextShell$Row;ILTextShell$Stream;LTextShell$Name;)LTextShell$Stream; -/
noncomputable def ev_m63 (E : ev_E) : Nat → Option (ev_I ⊕ Nat) := ev_code [ev_r63_0 E, ev_r63_1 E, ev_r63_2 E, ev_r63_3 E]
noncomputable def ev_r64_0 (E : ev_E) : List (Option (ev_I ⊕ Nat)) := [ev_oi (ev_aload 1 0), ev_oi (ev_objinit 4), ev_no, ev_no, ev_oi (ev_aload 5 0), ev_oi (ev_push 8 (ev_int 1024)), ev_no, ev_no, ev_oi (ev_newa 10 8 1 4 6210), ev_no, ev_oi (ev_put 13 9 1 5), ev_no, ev_no, ev_oi (ev_aload 14 0), ev_oi (ev_push 17 (ev_int 5120)), ev_no]
noncomputable def ev_r64_1 (E : ev_E) : List (Option (ev_I ⊕ Nat)) := [ev_no, ev_oi (ev_newa 19 1 0 4 6210), ev_no, ev_oi (ev_put 22 9 3 5), ev_no, ev_no, ev_oi (ev_aload 23 0), ev_oi (ev_new 26 0 2 4 6210 ev_f0), ev_no, ev_no, ev_oi (ev_dup 27), ev_oi (ev_push 29 (ev_int 16)), ev_no, ev_oi (ev_call 32 52 2 1 64 4 6210 (ev_recv 0) E), ev_no, ev_no]
noncomputable def ev_r64_2 (E : ev_E) : List (Option (ev_I ⊕ Nat)) := [ev_oi (ev_put 35 9 7 5), ev_no, ev_no, ev_oi (ev_aload 36 0), ev_oi (ev_aload 37 1), ev_oi (ev_put 40 9 0 5), ev_no, ev_no, ev_os 0, ev_no, ev_no, ev_no, ev_no, ev_no, ev_no, ev_no]
/-- 64: TextShell$Sum.<init>(LTextShell$Memory;)V -/
noncomputable def ev_m64 (E : ev_E) : Nat → Option (ev_I ⊕ Nat) := ev_code [ev_r64_0 E, ev_r64_1 E, ev_r64_2 E]
noncomputable def ev_r65_0 (E : ev_E) : List (Option (ev_I ⊕ Nat)) := [ev_oi (ev_aload 1 0), ev_oi (ev_objinit 4), ev_no, ev_no, ev_oi (ev_aload 5 0), ev_oi (ev_new 8 0 2 13 910 ev_f0), ev_no, ev_no, ev_oi (ev_dup 9), ev_oi (ev_push 11 (ev_int 64)), ev_no, ev_oi (ev_call 14 52 2 1 64 13 910 (ev_recv 0) E), ev_no, ev_no, ev_oi (ev_put 17 6 3 5), ev_no]
noncomputable def ev_r65_1 (E : ev_E) : List (Option (ev_I ⊕ Nat)) := [ev_no, ev_oi (ev_aload 18 0), ev_oi (ev_new 21 0 2 13 910 ev_f0), ev_no, ev_no, ev_oi (ev_dup 22), ev_oi (ev_push 24 (ev_int 64)), ev_no, ev_oi (ev_call 27 52 2 1 64 13 910 (ev_recv 0) E), ev_no, ev_no, ev_oi (ev_put 30 6 4 5), ev_no, ev_no, ev_oi (ev_aload 31 0), ev_oi (ev_push 33 (ev_int 64))]
noncomputable def ev_r65_2 (E : ev_E) : List (Option (ev_I ⊕ Nat)) := [ev_no, ev_oi (ev_newa 35 1 0 13 910), ev_no, ev_oi (ev_put 38 6 5 5), ev_no, ev_no, ev_oi (ev_aload 39 0), ev_oi (ev_push 41 (ev_int 64)), ev_no, ev_oi (ev_newa 43 1 0 13 910), ev_no, ev_oi (ev_put 46 6 6 5), ev_no, ev_no, ev_oi (ev_aload 47 0), ev_oi (ev_push 49 (ev_int 64))]
noncomputable def ev_r65_3 (E : ev_E) : List (Option (ev_I ⊕ Nat)) := [ev_no, ev_oi (ev_newa 51 1 0 13 910), ev_no, ev_oi (ev_put 54 6 7 5), ev_no, ev_no, ev_oi (ev_aload 55 0), ev_oi (ev_new 58 0 2 13 910 ev_f0), ev_no, ev_no, ev_oi (ev_dup 59), ev_oi (ev_push 61 (ev_int 32)), ev_no, ev_oi (ev_call 64 52 2 1 64 13 910 (ev_recv 0) E), ev_no, ev_no]
noncomputable def ev_r65_4 (E : ev_E) : List (Option (ev_I ⊕ Nat)) := [ev_oi (ev_put 67 6 9 5), ev_no, ev_no, ev_oi (ev_aload 68 0), ev_oi (ev_push 71 (ev_int 256)), ev_no, ev_no, ev_oi (ev_newa 73 1 0 13 910), ev_no, ev_oi (ev_put 76 6 10 5), ev_no, ev_no, ev_oi (ev_aload 77 0), ev_oi (ev_push 80 (ev_int 256)), ev_no, ev_no]
noncomputable def ev_r65_5 (E : ev_E) : List (Option (ev_I ⊕ Nat)) := [ev_oi (ev_newa 82 9 0 13 910), ev_no, ev_oi (ev_put 85 6 11 5), ev_no, ev_no, ev_oi (ev_aload 86 0), ev_oi (ev_push 87 (ev_int 4)), ev_oi (ev_newa 89 1 0 13 910), ev_no, ev_oi (ev_put 92 6 12 5), ev_no, ev_no, ev_oi (ev_aload 93 0), ev_oi (ev_push 94 (ev_int 4)), ev_oi (ev_newa 96 1 0 13 910), ev_no]
noncomputable def ev_r65_6 (E : ev_E) : List (Option (ev_I ⊕ Nat)) := [ev_oi (ev_put 99 6 13 5), ev_no, ev_no, ev_oi (ev_aload 100 0), ev_oi (ev_aload 101 1), ev_oi (ev_put 104 6 0 5), ev_no, ev_no, ev_oi (ev_aload 105 0), ev_oi (ev_aload 106 2), ev_oi (ev_put 109 6 1 5), ev_no, ev_no, ev_oi (ev_aload 110 0), ev_oi (ev_aload 111 3), ev_oi (ev_put 114 6 2 5)]
noncomputable def ev_r65_7 (E : ev_E) : List (Option (ev_I ⊕ Nat)) := [ev_no, ev_no, ev_os 0, ev_no, ev_no, ev_no, ev_no, ev_no, ev_no, ev_no, ev_no, ev_no, ev_no, ev_no, ev_no, ev_no]
/-- 65: TextShell$Tools.<init>(LTextShell$Memory;LTextShell$Shell;LTextShell$Expander;)V -/
noncomputable def ev_m65 (E : ev_E) : Nat → Option (ev_I ⊕ Nat) := ev_code [ev_r65_0 E, ev_r65_1 E, ev_r65_2 E, ev_r65_3 E, ev_r65_4 E, ev_r65_5 E, ev_r65_6 E, ev_r65_7 E]
noncomputable def ev_r66_0 (E : ev_E) : List (Option (ev_I ⊕ Nat)) := [ev_oi (ev_aload 1 0), ev_oi (ev_objinit 4), ev_no, ev_no, ev_oi (ev_aload 5 0), ev_oi (ev_push 6 (ev_int 5)), ev_oi (ev_put 9 12 2 0), ev_no, ev_no, ev_oi (ev_aload 10 0), ev_oi (ev_push 11 (ev_int (-1))), ev_oi (ev_put 14 12 6 0), ev_no, ev_no, ev_oi (ev_aload 15 0), ev_oi (ev_iload 16 1)]
noncomputable def ev_r66_1 (E : ev_E) : List (Option (ev_I ⊕ Nat)) := [ev_oi (ev_put 19 12 0 0), ev_no, ev_no, ev_os 0, ev_no, ev_no, ev_no, ev_no, ev_no, ev_no, ev_no, ev_no, ev_no, ev_no, ev_no, ev_no]
/-- 66: TextShell$Tree.<init>(I)V -/
noncomputable def ev_m66 (E : ev_E) : Nat → Option (ev_I ⊕ Nat) := ev_code [ev_r66_0 E, ev_r66_1 E]
noncomputable def ev_r67_0 (E : ev_E) : List (Option (ev_I ⊕ Nat)) := [ev_oi (ev_aload 1 3), ev_oi (ev_push 2 (ev_int 0)), ev_oi (ev_aload 3 0), ev_oi (ev_iload 4 1), ev_oi (ev_iload 5 2), ev_oi (ev_call 8 1 3 2 66 2 66 (ev_recv 1) E), ev_no, ev_no, ev_oi (ev_i2l 9), ev_oi (ev_ast 10 8 4), ev_oi (ev_goto 17), ev_no, ev_no, ev_oi (ev_astore 15 4), ev_no, ev_oi (ev_push 16 (ev_int 1))]
noncomputable def ev_r67_1 (E : ev_E) : List (Option (ev_I ⊕ Nat)) := [ev_os 1, ev_oi (ev_push 18 (ev_int 0)), ev_os 1, ev_no, ev_no, ev_no, ev_no, ev_no, ev_no, ev_no, ev_no, ev_no, ev_no, ev_no, ev_no, ev_no]
/-- 67: TextShellLaw.ask(LTextShell;II[J)I -/
noncomputable def ev_m67 (E : ev_E) : Nat → Option (ev_I ⊕ Nat) := ev_code [ev_r67_0 E, ev_r67_1 E]
noncomputable def ev_r68_0 (E : ev_E) : List (Option (ev_I ⊕ Nat)) := [ev_oi (ev_aload 1 0), ev_oi (ev_iload 2 1), ev_oi (ev_call 5 8 2 1 6 1 6 (ev_recv 1) E), ev_no, ev_no, ev_oi (ev_goto 11), ev_no, ev_no, ev_oi (ev_astore 9 2), ev_oi (ev_push 10 (ev_int 1)), ev_os 1, ev_oi (ev_push 12 (ev_int 0)), ev_os 1, ev_no, ev_no, ev_no]
/-- 68: TextShellLaw.input(LTextShell;I)I -/
noncomputable def ev_m68 (E : ev_E) : Nat → Option (ev_I ⊕ Nat) := ev_code [ev_r68_0 E]
noncomputable def ev_r69_0 (E : ev_E) : List (Option (ev_I ⊕ Nat)) := [ev_oi (ev_new 3 1 10 452 22780 ev_f1), ev_no, ev_no, ev_oi (ev_dup 4), ev_oi (ev_call 7 0 1 357 18203 452 22780 (ev_recv 1) E), ev_no, ev_no, ev_oi (ev_astore 8 1), ev_oi (ev_new 11 13 104 452 22780 ev_f13), ev_no, ev_no, ev_oi (ev_dup 12), ev_oi (ev_call 15 74 1 72 3822 452 22780 (ev_recv 13) E), ev_no, ev_no, ev_oi (ev_astore 16 2)]
noncomputable def ev_r69_1 (E : ev_E) : List (Option (ev_I ⊕ Nat)) := [ev_oi (ev_push 17 (ev_int 1)), ev_oi (ev_newa 19 8 1 452 22780), ev_no, ev_oi (ev_astore 20 3), ev_oi (ev_push 21 (ev_int 0)), ev_oi (ev_istore 23 4), ev_no, ev_oi (ev_iload 25 4), ev_no, ev_oi (ev_aload 26 0), ev_oi (ev_alen 27), ev_oi (ev_push 29 (ev_int 6)), ev_no, ev_oi (ev_bin ev_sub 30), ev_oi (ev_icmp 4 33 612), ev_no]
noncomputable def ev_r69_2 (E : ev_E) : List (Option (ev_I ⊕ Nat)) := [ev_no, ev_oi (ev_aload 34 0), ev_oi (ev_iload 36 4), ev_no, ev_oi (ev_ald 37 1), ev_oi (ev_push 39 (ev_int 15)), ev_no, ev_oi (ev_bin ev_and 40), ev_oi (ev_tsw 0 [100, 173, 229, 273, 329, 365, 452, 520, 557, 570, 581] 606), ev_no, ev_no, ev_no, ev_no, ev_no, ev_no, ev_no]
noncomputable def ev_r69_6 (E : ev_E) : List (Option (ev_I ⊕ Nat)) := [ev_no, ev_no, ev_no, ev_no, ev_oi (ev_aload 101 1), ev_oi (ev_aload 102 0), ev_oi (ev_iload 104 4), ev_no, ev_oi (ev_push 105 (ev_int 1)), ev_oi (ev_bin ev_add 106), ev_oi (ev_ald 107 1), ev_oi (ev_aload 108 0), ev_oi (ev_iload 110 4), ev_no, ev_oi (ev_push 111 (ev_int 2)), ev_oi (ev_bin ev_add 112)]
noncomputable def ev_r69_7 (E : ev_E) : List (Option (ev_I ⊕ Nat)) := [ev_oi (ev_ald 113 1), ev_oi (ev_aload 114 0), ev_oi (ev_iload 116 4), ev_no, ev_oi (ev_push 117 (ev_int 3)), ev_oi (ev_bin ev_add 118), ev_oi (ev_ald 119 1), ev_oi (ev_aload 120 0), ev_oi (ev_iload 122 4), ev_no, ev_oi (ev_push 123 (ev_int 4)), ev_oi (ev_bin ev_add 124), ev_oi (ev_ald 125 1), ev_oi (ev_aload 126 0), ev_oi (ev_iload 128 4), ev_no]
noncomputable def ev_r69_8 (E : ev_E) : List (Option (ev_I ⊕ Nat)) := [ev_oi (ev_push 129 (ev_int 5)), ev_oi (ev_bin ev_add 130), ev_oi (ev_ald 131 1), ev_oi (ev_call 134 5 6 0 0 452 22780 (ev_recv 1) E), ev_no, ev_no, ev_oi (ev_aload 135 2), ev_oi (ev_aload 136 0), ev_oi (ev_iload 138 4), ev_no, ev_oi (ev_push 139 (ev_int 1)), ev_oi (ev_bin ev_add 140), ev_oi (ev_ald 141 1), ev_oi (ev_aload 142 0), ev_oi (ev_iload 144 4), ev_no]
noncomputable def ev_r69_9 (E : ev_E) : List (Option (ev_I ⊕ Nat)) := [ev_oi (ev_push 145 (ev_int 2)), ev_oi (ev_bin ev_add 146), ev_oi (ev_ald 147 1), ev_oi (ev_aload 148 0), ev_oi (ev_iload 150 4), ev_no, ev_oi (ev_push 151 (ev_int 3)), ev_oi (ev_bin ev_add 152), ev_oi (ev_ald 153 1), ev_oi (ev_aload 154 0), ev_oi (ev_iload 156 4), ev_no, ev_oi (ev_push 157 (ev_int 4)), ev_oi (ev_bin ev_add 158), ev_oi (ev_ald 159 1), ev_oi (ev_aload 160 0)]
noncomputable def ev_r69_10 (E : ev_E) : List (Option (ev_I ⊕ Nat)) := [ev_oi (ev_iload 162 4), ev_no, ev_oi (ev_push 163 (ev_int 5)), ev_oi (ev_bin ev_add 164), ev_oi (ev_ald 165 1), ev_oi (ev_call 168 82 6 20 640 452 22780 (ev_recv 13) E), ev_no, ev_no, ev_oi (ev_icmp 0 171 606), ev_no, ev_no, ev_no, ev_no, ev_oi (ev_aload 174 1), ev_oi (ev_aload 175 0), ev_oi (ev_iload 177 4)]
noncomputable def ev_r69_11 (E : ev_E) : List (Option (ev_I ⊕ Nat)) := [ev_no, ev_oi (ev_push 178 (ev_int 1)), ev_oi (ev_bin ev_add 179), ev_oi (ev_ald 180 1), ev_oi (ev_aload 181 3), ev_oi (ev_call 184 72 3 8 190 452 22780 ev_rc1 E), ev_no, ev_no, ev_oi (ev_istore 186 5), ev_no, ev_oi (ev_aload 187 2), ev_oi (ev_aload 188 0), ev_oi (ev_iload 190 4), ev_no, ev_oi (ev_push 191 (ev_int 1)), ev_oi (ev_bin ev_add 192)]
noncomputable def ev_r69_12 (E : ev_E) : List (Option (ev_I ⊕ Nat)) := [ev_oi (ev_ald 193 1), ev_oi (ev_call 196 93 2 4 26 452 22780 (ev_recv 13) E), ev_no, ev_no, ev_oi (ev_istore 198 6), ev_no, ev_oi (ev_aload 199 2), ev_oi (ev_call 202 100 1 0 0 452 22780 (ev_recv 13) E), ev_no, ev_no, ev_oi (ev_iload 204 5), ev_no, ev_oi (ev_icmp 0 207 209), ev_no, ev_no, ev_no]
noncomputable def ev_r69_13 (E : ev_E) : List (Option (ev_I ⊕ Nat)) := [ev_no, ev_oi (ev_iload 211 5), ev_no, ev_oi (ev_if 1 214 226), ev_no, ev_no, ev_oi (ev_aload 215 3), ev_oi (ev_push 216 (ev_int 0)), ev_oi (ev_ald 217 8), ev_oi (ev_iload 219 6), ev_no, ev_oi (ev_i2l 220), ev_oi (ev_lcmp 221), ev_oi (ev_if 0 224 226), ev_no, ev_no]
noncomputable def ev_r69_14 (E : ev_E) : List (Option (ev_I ⊕ Nat)) := [ev_no, ev_no, ev_oi (ev_goto 606), ev_no, ev_no, ev_oi (ev_aload 230 1), ev_oi (ev_aload 231 3), ev_oi (ev_call 234 70 2 1 6 452 22780 ev_rc1 E), ev_no, ev_no, ev_oi (ev_istore 236 5), ev_no, ev_oi (ev_aload 237 2), ev_oi (ev_call 240 91 1 0 0 452 22780 (ev_recv 13) E), ev_no, ev_no]
noncomputable def ev_r69_15 (E : ev_E) : List (Option (ev_I ⊕ Nat)) := [ev_oi (ev_istore 242 6), ev_no, ev_oi (ev_aload 243 2), ev_oi (ev_call 246 100 1 0 0 452 22780 (ev_recv 13) E), ev_no, ev_no, ev_oi (ev_iload 248 5), ev_no, ev_oi (ev_icmp 0 251 253), ev_no, ev_no, ev_no, ev_no, ev_oi (ev_iload 255 5), ev_no, ev_oi (ev_if 1 258 270)]
noncomputable def ev_r69_16 (E : ev_E) : List (Option (ev_I ⊕ Nat)) := [ev_no, ev_no, ev_no, ev_no, ev_no, ev_no, ev_no, ev_no, ev_no, ev_no, ev_no, ev_no, ev_no, ev_no, ev_oi (ev_goto 606), ev_no]
noncomputable def ev_r69_17 (E : ev_E) : List (Option (ev_I ⊕ Nat)) := [ev_no, ev_oi (ev_aload 274 1), ev_oi (ev_aload 275 0), ev_oi (ev_iload 277 4), ev_no, ev_oi (ev_push 278 (ev_int 1)), ev_oi (ev_bin ev_add 279), ev_oi (ev_ald 280 1), ev_oi (ev_aload 281 3), ev_oi (ev_call 284 73 3 1 6 452 22780 ev_rc1 E), ev_no, ev_no, ev_oi (ev_istore 286 5), ev_no, ev_oi (ev_aload 287 2), ev_oi (ev_aload 288 0)]
noncomputable def ev_r69_18 (E : ev_E) : List (Option (ev_I ⊕ Nat)) := [ev_oi (ev_iload 290 4), ev_no, ev_oi (ev_push 291 (ev_int 1)), ev_oi (ev_bin ev_add 292), ev_oi (ev_ald 293 1), ev_oi (ev_call 296 97 2 0 0 452 22780 (ev_recv 13) E), ev_no, ev_no, ev_oi (ev_istore 298 6), ev_no, ev_oi (ev_aload 299 2), ev_oi (ev_call 302 100 1 0 0 452 22780 (ev_recv 13) E), ev_no, ev_no, ev_oi (ev_iload 304 5), ev_no]
noncomputable def ev_r69_19 (E : ev_E) : List (Option (ev_I ⊕ Nat)) := [ev_oi (ev_icmp 0 307 309), ev_no, ev_no, ev_no, ev_no, ev_oi (ev_iload 311 5), ev_no, ev_oi (ev_if 1 314 326), ev_no, ev_no, ev_no, ev_no, ev_no, ev_no, ev_no, ev_no]
noncomputable def ev_r69_20 (E : ev_E) : List (Option (ev_I ⊕ Nat)) := [ev_no, ev_no, ev_no, ev_no, ev_no, ev_no, ev_oi (ev_goto 606), ev_no, ev_no, ev_oi (ev_aload 330 1), ev_oi (ev_aload 331 0), ev_oi (ev_iload 333 4), ev_no, ev_oi (ev_push 334 (ev_int 1)), ev_oi (ev_bin ev_add 335), ev_oi (ev_ald 336 1)]
noncomputable def ev_r69_21 (E : ev_E) : List (Option (ev_I ⊕ Nat)) := [ev_oi (ev_call 339 68 2 1 6 452 22780 ev_rc1 E), ev_no, ev_no, ev_oi (ev_istore 341 5), ev_no, ev_oi (ev_aload 342 2), ev_oi (ev_aload 343 0), ev_oi (ev_iload 345 4), ev_no, ev_oi (ev_push 346 (ev_int 1)), ev_oi (ev_bin ev_add 347), ev_oi (ev_ald 348 1), ev_oi (ev_call 351 85 2 4 23 452 22780 (ev_recv 13) E), ev_no, ev_no, ev_oi (ev_aload 352 2)]
noncomputable def ev_r69_22 (E : ev_E) : List (Option (ev_I ⊕ Nat)) := [ev_oi (ev_call 355 100 1 0 0 452 22780 (ev_recv 13) E), ev_no, ev_no, ev_oi (ev_iload 357 5), ev_no, ev_oi (ev_icmp 0 360 362), ev_no, ev_no, ev_no, ev_no, ev_oi (ev_goto 606), ev_no, ev_no, ev_oi (ev_aload 366 1), ev_oi (ev_aload 367 0), ev_oi (ev_iload 369 4)]
noncomputable def ev_r69_23 (E : ev_E) : List (Option (ev_I ⊕ Nat)) := [ev_no, ev_oi (ev_push 370 (ev_int 1)), ev_oi (ev_bin ev_add 371), ev_oi (ev_ald 372 1), ev_oi (ev_aload 373 0), ev_oi (ev_iload 375 4), ev_no, ev_oi (ev_push 376 (ev_int 2)), ev_oi (ev_bin ev_add 377), ev_oi (ev_ald 378 1), ev_oi (ev_aload 379 0), ev_oi (ev_iload 381 4), ev_no, ev_oi (ev_push 382 (ev_int 3)), ev_oi (ev_bin ev_add 383), ev_oi (ev_ald 384 1)]
noncomputable def ev_r69_24 (E : ev_E) : List (Option (ev_I ⊕ Nat)) := [ev_oi (ev_aload 385 3), ev_oi (ev_call 388 71 5 4 132 452 22780 ev_rc1 E), ev_no, ev_no, ev_oi (ev_istore 390 5), ev_no, ev_oi (ev_aload 391 2), ev_oi (ev_aload 392 0), ev_oi (ev_iload 394 4), ev_no, ev_oi (ev_push 395 (ev_int 1)), ev_oi (ev_bin ev_add 396), ev_oi (ev_ald 397 1), ev_oi (ev_aload 398 0), ev_oi (ev_iload 400 4), ev_no]
noncomputable def ev_r69_25 (E : ev_E) : List (Option (ev_I ⊕ Nat)) := [ev_oi (ev_push 401 (ev_int 2)), ev_oi (ev_bin ev_add 402), ev_oi (ev_ald 403 1), ev_oi (ev_aload 404 0), ev_oi (ev_iload 406 4), ev_no, ev_oi (ev_push 407 (ev_int 3)), ev_oi (ev_bin ev_add 408), ev_oi (ev_ald 409 1), ev_oi (ev_call 412 92 4 2 0 452 22780 (ev_recv 13) E), ev_no, ev_no, ev_oi (ev_istore 414 6), ev_no, ev_oi (ev_aload 415 2), ev_oi (ev_call 418 100 1 0 0 452 22780 (ev_recv 13) E)]
noncomputable def ev_r69_26 (E : ev_E) : List (Option (ev_I ⊕ Nat)) := [ev_no, ev_no, ev_oi (ev_iload 420 5), ev_no, ev_oi (ev_icmp 0 423 425), ev_no, ev_no, ev_no, ev_no, ev_oi (ev_iload 427 5), ev_no, ev_oi (ev_if 1 430 449), ev_no, ev_no, ev_oi (ev_aload 431 3), ev_oi (ev_push 432 (ev_int 0))]
noncomputable def ev_r69_27 (E : ev_E) : List (Option (ev_I ⊕ Nat)) := [ev_oi (ev_ald 433 8), ev_oi (ev_iload 435 6), ev_no, ev_oi (ev_if 0 438 442), ev_no, ev_no, ev_no, ev_no, ev_no, ev_no, ev_oi (ev_push 443 (.inr (.inl (0, 0)))), ev_oi (ev_lcmp 444), ev_oi (ev_if 0 447 449), ev_no, ev_no, ev_no]
noncomputable def ev_r69_28 (E : ev_E) : List (Option (ev_I ⊕ Nat)) := [ev_no, ev_oi (ev_goto 606), ev_no, ev_no, ev_oi (ev_aload 453 1), ev_oi (ev_aload 454 0), ev_oi (ev_iload 456 4), ev_no, ev_oi (ev_push 457 (ev_int 1)), ev_oi (ev_bin ev_add 458), ev_oi (ev_ald 459 1), ev_oi (ev_aload 460 0), ev_oi (ev_iload 462 4), ev_no, ev_oi (ev_push 463 (ev_int 2)), ev_oi (ev_bin ev_add 464)]
noncomputable def ev_r69_29 (E : ev_E) : List (Option (ev_I ⊕ Nat)) := [ev_oi (ev_ald 465 1), ev_oi (ev_aload 466 3), ev_oi (ev_call 469 67 4 2 66 452 22780 ev_rc1 E), ev_no, ev_no, ev_oi (ev_istore 471 5), ev_no, ev_oi (ev_aload 472 2), ev_oi (ev_aload 473 0), ev_oi (ev_iload 475 4), ev_no, ev_oi (ev_push 476 (ev_int 1)), ev_oi (ev_bin ev_add 477), ev_oi (ev_ald 478 1), ev_oi (ev_aload 479 0), ev_oi (ev_iload 481 4)]
noncomputable def ev_r69_30 (E : ev_E) : List (Option (ev_I ⊕ Nat)) := [ev_no, ev_oi (ev_push 482 (ev_int 2)), ev_oi (ev_bin ev_add 483), ev_oi (ev_ald 484 1), ev_oi (ev_call 487 76 3 1 0 452 22780 (ev_recv 13) E), ev_no, ev_no, ev_oi (ev_istore 489 6), ev_no, ev_oi (ev_aload 490 2), ev_oi (ev_call 493 100 1 0 0 452 22780 (ev_recv 13) E), ev_no, ev_no, ev_oi (ev_iload 495 5), ev_no, ev_oi (ev_icmp 0 498 500)]
noncomputable def ev_r69_31 (E : ev_E) : List (Option (ev_I ⊕ Nat)) := [ev_no, ev_no, ev_no, ev_no, ev_oi (ev_iload 502 5), ev_no, ev_oi (ev_if 1 505 517), ev_no, ev_no, ev_oi (ev_aload 506 3), ev_oi (ev_push 507 (ev_int 0)), ev_oi (ev_ald 508 8), ev_oi (ev_iload 510 6), ev_no, ev_oi (ev_i2l 511), ev_oi (ev_lcmp 512)]
noncomputable def ev_r69_32 (E : ev_E) : List (Option (ev_I ⊕ Nat)) := [ev_oi (ev_if 0 515 517), ev_no, ev_no, ev_no, ev_no, ev_oi (ev_goto 606), ev_no, ev_no, ev_oi (ev_aload 521 1), ev_oi (ev_aload 522 0), ev_oi (ev_iload 524 4), ev_no, ev_oi (ev_push 525 (ev_int 1)), ev_oi (ev_bin ev_add 526), ev_oi (ev_ald 527 1), ev_oi (ev_aload 528 0)]
noncomputable def ev_r69_33 (E : ev_E) : List (Option (ev_I ⊕ Nat)) := [ev_oi (ev_iload 530 4), ev_no, ev_oi (ev_push 531 (ev_int 2)), ev_oi (ev_bin ev_add 532), ev_oi (ev_ald 533 1), ev_oi (ev_call 536 2 3 0 0 452 22780 (ev_recv 1) E), ev_no, ev_no, ev_oi (ev_aload 537 2), ev_oi (ev_aload 538 0), ev_oi (ev_iload 540 4), ev_no, ev_oi (ev_push 541 (ev_int 1)), ev_oi (ev_bin ev_add 542), ev_oi (ev_ald 543 1), ev_oi (ev_aload 544 0)]
noncomputable def ev_r69_34 (E : ev_E) : List (Option (ev_I ⊕ Nat)) := [ev_oi (ev_iload 546 4), ev_no, ev_oi (ev_push 547 (ev_int 2)), ev_oi (ev_bin ev_add 548), ev_oi (ev_ald 549 1), ev_oi (ev_call 552 78 3 0 0 452 22780 (ev_recv 13) E), ev_no, ev_no, ev_oi (ev_icmp 0 555 606), ev_no, ev_no, ev_no, ev_no, ev_oi (ev_aload 558 1), ev_oi (ev_call 561 3 1 0 0 452 22780 (ev_recv 1) E), ev_no]
noncomputable def ev_r69_35 (E : ev_E) : List (Option (ev_I ⊕ Nat)) := [ev_no, ev_oi (ev_aload 562 2), ev_oi (ev_call 565 79 1 0 0 452 22780 (ev_recv 13) E), ev_no, ev_no, ev_oi (ev_icmp 0 568 606), ev_no, ev_no, ev_no, ev_no, ev_oi (ev_aload 571 1), ev_oi (ev_call 574 13 1 0 0 452 22780 (ev_recv 1) E), ev_no, ev_no, ev_oi (ev_aload 575 2), ev_oi (ev_call 578 95 1 6 30 452 22780 (ev_recv 13) E)]
noncomputable def ev_r69_36 (E : ev_E) : List (Option (ev_I ⊕ Nat)) := [ev_no, ev_no, ev_oi (ev_goto 606), ev_no, ev_no, ev_oi (ev_aload 582 1), ev_oi (ev_aload 583 0), ev_oi (ev_iload 585 4), ev_no, ev_oi (ev_push 586 (ev_int 1)), ev_oi (ev_bin ev_add 587), ev_oi (ev_ald 588 1), ev_oi (ev_call 591 4 2 0 0 452 22780 (ev_recv 1) E), ev_no, ev_no, ev_oi (ev_aload 592 2)]
noncomputable def ev_r69_37 (E : ev_E) : List (Option (ev_I ⊕ Nat)) := [ev_oi (ev_aload 593 0), ev_oi (ev_iload 595 4), ev_no, ev_oi (ev_push 596 (ev_int 1)), ev_oi (ev_bin ev_add 597), ev_oi (ev_ald 598 1), ev_oi (ev_call 601 80 2 0 0 452 22780 (ev_recv 13) E), ev_no, ev_no, ev_oi (ev_icmp 0 604 606), ev_no, ev_no, ev_no, ev_no, ev_oi (ev_iinc 609 4 6), ev_no]
noncomputable def ev_r69_38 (E : ev_E) : List (Option (ev_I ⊕ Nat)) := [ev_no, ev_oi (ev_goto 23), ev_no, ev_no, ev_oi (ev_push 613 (ev_int 1)), ev_os 2, ev_no, ev_no, ev_no, ev_no, ev_no, ev_no, ev_no, ev_no, ev_no, ev_no]
/-- 69: TextShellLaw.law([I)Z -/
noncomputable def ev_m69 (E : ev_E) : Nat → Option (ev_I ⊕ Nat) := ev_code [ev_r69_0 E, ev_r69_1 E, ev_r69_2 E, [], [], [], ev_r69_6 E, ev_r69_7 E, ev_r69_8 E, ev_r69_9 E, ev_r69_10 E, ev_r69_11 E, ev_r69_12 E, ev_r69_13 E, ev_r69_14 E, ev_r69_15 E, ev_r69_16 E, ev_r69_17 E, ev_r69_18 E, ev_r69_19 E, ev_r69_20 E, ev_r69_21 E, ev_r69_22 E, ev_r69_23 E, ev_r69_24 E, ev_r69_25 E, ev_r69_26 E, ev_r69_27 E, ev_r69_28 E, ev_r69_29 E, ev_r69_30 E, ev_r69_31 E, ev_r69_32 E, ev_r69_33 E, ev_r69_34 E, ev_r69_35 E, ev_r69_36 E, ev_r69_37 E, ev_r69_38 E]
noncomputable def ev_r70_0 (E : ev_E) : List (Option (ev_I ⊕ Nat)) := [ev_oi (ev_aload 1 1), ev_oi (ev_push 2 (ev_int 0)), ev_oi (ev_aload 3 0), ev_oi (ev_call 6 9 1 1 6 1 6 (ev_recv 1) E), ev_no, ev_no, ev_no, ev_no, ev_no, ev_no, ev_no, ev_oi (ev_astore 12 2), ev_oi (ev_push 13 (ev_int 1)), ev_os 1, ev_no, ev_no]
/-- 70: TextShellLaw.print(LTextShell;[J)I -/
noncomputable def ev_m70 (E : ev_E) : Nat → Option (ev_I ⊕ Nat) := ev_code [ev_r70_0 E]
noncomputable def ev_r71_0 (E : ev_E) : List (Option (ev_I ⊕ Nat)) := [ev_oi (ev_aload 2 4), ev_no, ev_oi (ev_push 3 (ev_int 0)), ev_oi (ev_aload 4 0), ev_oi (ev_iload 5 1), ev_oi (ev_iload 6 2), ev_oi (ev_iload 7 3), ev_oi (ev_call 10 10 4 4 132 4 132 (ev_recv 1) E), ev_no, ev_no, ev_oi (ev_if 0 13 17), ev_no, ev_no, ev_no, ev_no, ev_no]
noncomputable def ev_r71_1 (E : ev_E) : List (Option (ev_I ⊕ Nat)) := [ev_no, ev_oi (ev_push 18 (.inr (.inl (0, 0)))), ev_oi (ev_ast 19 8 4), ev_oi (ev_goto 26), ev_no, ev_no, ev_oi (ev_astore 24 5), ev_no, ev_oi (ev_push 25 (ev_int 1)), ev_os 1, ev_oi (ev_push 27 (ev_int 0)), ev_os 1, ev_no, ev_no, ev_no, ev_no]
/-- 71: TextShellLaw.put(LTextShell;III[J)I -/
noncomputable def ev_m71 (E : ev_E) : Nat → Option (ev_I ⊕ Nat) := ev_code [ev_r71_0 E, ev_r71_1 E]
noncomputable def ev_r72_0 (E : ev_E) : List (Option (ev_I ⊕ Nat)) := [ev_oi (ev_aload 1 2), ev_oi (ev_push 2 (ev_int 0)), ev_oi (ev_aload 3 0), ev_oi (ev_iload 4 1), ev_oi (ev_call 7 12 2 8 190 8 190 (ev_recv 1) E), ev_no, ev_no, ev_oi (ev_i2l 8), ev_oi (ev_ast 9 8 4), ev_oi (ev_goto 15), ev_no, ev_no, ev_oi (ev_astore 13 3), ev_oi (ev_push 14 (ev_int 1)), ev_os 1, ev_oi (ev_push 16 (ev_int 0))]
noncomputable def ev_r72_1 (E : ev_E) : List (Option (ev_I ⊕ Nat)) := [ev_os 1, ev_no, ev_no, ev_no, ev_no, ev_no, ev_no, ev_no, ev_no, ev_no, ev_no, ev_no, ev_no, ev_no, ev_no, ev_no]
/-- 72: TextShellLaw.read(LTextShell;I[J)I -/
noncomputable def ev_m72 (E : ev_E) : Nat → Option (ev_I ⊕ Nat) := ev_code [ev_r72_0 E, ev_r72_1 E]
noncomputable def ev_r73_0 (E : ev_E) : List (Option (ev_I ⊕ Nat)) := [ev_oi (ev_aload 1 2), ev_oi (ev_push 2 (ev_int 0)), ev_oi (ev_aload 3 0), ev_oi (ev_iload 4 1), ev_oi (ev_call 7 14 2 1 6 1 6 (ev_recv 1) E), ev_no, ev_no, ev_no, ev_no, ev_no, ev_no, ev_no, ev_oi (ev_astore 13 3), ev_oi (ev_push 14 (ev_int 1)), ev_os 1, ev_no]
/-- 73: TextShellLaw.run(LTextShell;I[J)I -/
noncomputable def ev_m73 (E : ev_E) : Nat → Option (ev_I ⊕ Nat) := ev_code [ev_r73_0 E]
noncomputable def ev_r74_0 (E : ev_E) : List (Option (ev_I ⊕ Nat)) := [ev_oi (ev_aload 1 0), ev_oi (ev_objinit 4), ev_no, ev_no, ev_oi (ev_aload 5 0), ev_oi (ev_push 8 (ev_int 256)), ev_no, ev_no, ev_oi (ev_newa 11 10 2 72 3822), ev_no, ev_no, ev_oi (ev_put 14 13 0 5), ev_no, ev_no, ev_oi (ev_aload 15 0), ev_oi (ev_push 16 (ev_int 0))]
noncomputable def ev_r74_1 (E : ev_E) : List (Option (ev_I ⊕ Nat)) := [ev_oi (ev_newa 18 11 0 72 3822), ev_no, ev_oi (ev_put 21 13 1 5), ev_no, ev_no, ev_oi (ev_aload 22 0), ev_oi (ev_push 25 (ev_int 256)), ev_no, ev_no, ev_oi (ev_newa 28 10 2 72 3822), ev_no, ev_no, ev_oi (ev_put 31 13 2 5), ev_no, ev_no, ev_oi (ev_aload 32 0)]
noncomputable def ev_r74_2 (E : ev_E) : List (Option (ev_I ⊕ Nat)) := [ev_no, ev_no, ev_no, ev_oi (ev_dup 36), ev_no, ev_no, ev_no, ev_oi (ev_put 42 13 3 5), ev_no, ev_no, ev_oi (ev_aload 43 0), ev_oi (ev_new 46 14 2 72 3822 ev_f14), ev_no, ev_no, ev_oi (ev_dup 47), ev_oi (ev_call 50 101 1 1 16 72 3822 (ev_recv 14) E)]
noncomputable def ev_r74_3 (E : ev_E) : List (Option (ev_I ⊕ Nat)) := [ev_no, ev_no, ev_oi (ev_put 53 13 5 5), ev_no, ev_no, ev_oi (ev_aload 54 0), ev_oi (ev_new 57 14 2 72 3822 ev_f14), ev_no, ev_no, ev_oi (ev_dup 58), ev_oi (ev_call 61 101 1 1 16 72 3822 (ev_recv 14) E), ev_no, ev_no, ev_oi (ev_put 64 13 6 5), ev_no, ev_no]
noncomputable def ev_r74_4 (E : ev_E) : List (Option (ev_I ⊕ Nat)) := [ev_oi (ev_aload 65 0), ev_oi (ev_push 67 (ev_int 64)), ev_no, ev_oi (ev_newa 69 1 0 72 3822), ev_no, ev_oi (ev_put 72 13 7 5), ev_no, ev_no, ev_oi (ev_aload 73 0), ev_oi (ev_new 76 14 2 72 3822 ev_f14), ev_no, ev_no, ev_oi (ev_dup 77), ev_oi (ev_call 80 101 1 1 16 72 3822 (ev_recv 14) E), ev_no, ev_no]
noncomputable def ev_r74_5 (E : ev_E) : List (Option (ev_I ⊕ Nat)) := [ev_oi (ev_put 83 13 11 5), ev_no, ev_no, ev_oi (ev_aload 84 0), ev_oi (ev_new 87 15 7 72 3822 ev_f15), ev_no, ev_no, ev_oi (ev_dup 88), ev_oi (ev_push 89 (ev_int 0)), ev_oi (ev_newa 91 11 0 72 3822), ev_no, ev_oi (ev_push 92 (ev_int 1)), ev_oi (ev_call 95 104 3 0 0 72 3822 (ev_recv 15) E), ev_no, ev_no, ev_oi (ev_put 98 13 14 5)]
noncomputable def ev_r74_6 (E : ev_E) : List (Option (ev_I ⊕ Nat)) := [ev_no, ev_no, ev_oi (ev_aload 99 0), ev_oi (ev_aload 100 0), ev_oi (ev_get 103 13 14), ev_no, ev_no, ev_oi (ev_put 106 13 15 5), ev_no, ev_no, ev_oi (ev_aload 107 0), ev_oi (ev_push 108 (ev_int 1)), ev_oi (ev_put 111 13 17 0), ev_no, ev_no, ev_oi (ev_aload 112 0)]
noncomputable def ev_r74_7 (E : ev_E) : List (Option (ev_I ⊕ Nat)) := [ev_oi (ev_new 115 16 3 72 3822 ev_f16), ev_no, ev_no, ev_oi (ev_dup 116), ev_oi (ev_call 119 130 1 0 0 72 3822 (ev_recv 16) E), ev_no, ev_no, ev_oi (ev_put 122 13 21 5), ev_no, ev_no, ev_oi (ev_aload 123 0), ev_oi (ev_push 124 (ev_int 3)), ev_oi (ev_newa 127 12 2 72 3822), ev_no, ev_no, ev_oi (ev_put 130 13 22 5)]
noncomputable def ev_r74_8 (E : ev_E) : List (Option (ev_I ⊕ Nat)) := [ev_no, ev_no, ev_oi (ev_aload 131 0), ev_oi (ev_new 134 17 4 72 3822 ev_f17), ev_no, ev_no, ev_oi (ev_dup 135), ev_oi (ev_call 138 118 1 2 515 72 3822 (ev_recv 17) E), ev_no, ev_no, ev_oi (ev_put 141 13 24 5), ev_no, ev_no, ev_oi (ev_aload 142 0), ev_oi (ev_new 145 17 4 72 3822 ev_f17), ev_no]
noncomputable def ev_r74_9 (E : ev_E) : List (Option (ev_I ⊕ Nat)) := [ev_no, ev_oi (ev_dup 146), ev_oi (ev_call 149 118 1 2 515 72 3822 (ev_recv 17) E), ev_no, ev_no, ev_oi (ev_put 152 13 25 5), ev_no, ev_no, ev_oi (ev_aload 153 0), ev_oi (ev_new 156 17 4 72 3822 ev_f17), ev_no, ev_no, ev_oi (ev_dup 157), ev_oi (ev_call 160 118 1 2 515 72 3822 (ev_recv 17) E), ev_no, ev_no]
noncomputable def ev_r74_10 (E : ev_E) : List (Option (ev_I ⊕ Nat)) := [ev_oi (ev_put 163 13 26 5), ev_no, ev_no, ev_oi (ev_aload 164 0), ev_oi (ev_push 165 (ev_int 0)), ev_oi (ev_newa 168 10 2 72 3822), ev_no, ev_no, ev_oi (ev_put 171 13 27 5), ev_no, ev_no, ev_oi (ev_aload 172 0), ev_oi (ev_new 175 16 3 72 3822 ev_f16), ev_no, ev_no, ev_oi (ev_dup 176)]
noncomputable def ev_r74_11 (E : ev_E) : List (Option (ev_I ⊕ Nat)) := [ev_oi (ev_call 179 130 1 0 0 72 3822 (ev_recv 16) E), ev_no, ev_no, ev_oi (ev_put 182 13 45 5), ev_no, ev_no, ev_oi (ev_aload 183 0), ev_oi (ev_push 185 (ev_int 16)), ev_no, ev_oi (ev_newa 188 10 2 72 3822), ev_no, ev_no, ev_oi (ev_put 191 13 46 5), ev_no, ev_no, ev_oi (ev_aload 192 0)]
noncomputable def ev_r74_12 (E : ev_E) : List (Option (ev_I ⊕ Nat)) := [ev_oi (ev_push 194 (ev_int 16)), ev_no, ev_oi (ev_newa 197 13 2 72 3822), ev_no, ev_no, ev_oi (ev_put 200 13 47 5), ev_no, ev_no, ev_oi (ev_aload 201 0), ev_oi (ev_push 203 (ev_int 16)), ev_no, ev_oi (ev_newa 205 1 0 72 3822), ev_no, ev_oi (ev_put 208 13 48 5), ev_no, ev_no]
noncomputable def ev_r74_13 (E : ev_E) : List (Option (ev_I ⊕ Nat)) := [ev_oi (ev_aload 209 0), ev_oi (ev_push 210 (ev_int 4)), ev_oi (ev_newa 212 11 0 72 3822), ev_no, ev_oi (ev_dup 213), ev_oi (ev_push 214 (ev_int 0)), ev_oi (ev_push 216 (ev_int 72)), ev_no, ev_oi (ev_ast 217 11 2), ev_oi (ev_dup 218), ev_oi (ev_push 219 (ev_int 1)), ev_oi (ev_push 221 (ev_int 79)), ev_no, ev_oi (ev_ast 222 11 2), ev_oi (ev_dup 223), ev_oi (ev_push 224 (ev_int 2))]
noncomputable def ev_r74_14 (E : ev_E) : List (Option (ev_I ⊕ Nat)) := [ev_oi (ev_push 226 (ev_int 77)), ev_no, ev_oi (ev_ast 227 11 2), ev_oi (ev_dup 228), ev_oi (ev_push 229 (ev_int 3)), ev_oi (ev_push 231 (ev_int 69)), ev_no, ev_oi (ev_ast 232 11 2), ev_oi (ev_put 235 13 49 5), ev_no, ev_no, ev_oi (ev_aload 236 0), ev_oi (ev_push 237 (ev_int 3)), ev_oi (ev_newa 239 11 0 72 3822), ev_no, ev_oi (ev_dup 240)]
noncomputable def ev_r74_15 (E : ev_E) : List (Option (ev_I ⊕ Nat)) := [ev_oi (ev_push 241 (ev_int 0)), ev_oi (ev_push 243 (ev_int 73)), ev_no, ev_oi (ev_ast 244 11 2), ev_oi (ev_dup 245), ev_oi (ev_push 246 (ev_int 1)), ev_oi (ev_push 248 (ev_int 70)), ev_no, ev_oi (ev_ast 249 11 2), ev_oi (ev_dup 250), ev_oi (ev_push 251 (ev_int 2)), ev_oi (ev_push 253 (ev_int 83)), ev_no, ev_oi (ev_ast 254 11 2), ev_oi (ev_put 257 13 50 5), ev_no]
noncomputable def ev_r74_16 (E : ev_E) : List (Option (ev_I ⊕ Nat)) := [ev_no, ev_oi (ev_aload 258 0), ev_oi (ev_push 261 (ev_int 256)), ev_no, ev_no, ev_oi (ev_newa 264 14 2 72 3822), ev_no, ev_no, ev_oi (ev_put 267 13 51 5), ev_no, ev_no, ev_oi (ev_aload 268 0), ev_oi (ev_push 269 (ev_int 2)), ev_oi (ev_newa 271 11 0 72 3822), ev_no, ev_oi (ev_dup 272)]
noncomputable def ev_r74_17 (E : ev_E) : List (Option (ev_I ⊕ Nat)) := [ev_oi (ev_push 273 (ev_int 0)), ev_oi (ev_push 275 (ev_int 115)), ev_no, ev_oi (ev_ast 276 11 2), ev_oi (ev_dup 277), ev_oi (ev_push 278 (ev_int 1)), ev_oi (ev_push 280 (ev_int 104)), ev_no, ev_oi (ev_ast 281 11 2), ev_oi (ev_put 284 13 54 5), ev_no, ev_no, ev_oi (ev_aload 285 0), ev_oi (ev_push 287 (ev_int 8)), ev_no, ev_oi (ev_newa 290 10 2 72 3822)]
noncomputable def ev_r74_18 (E : ev_E) : List (Option (ev_I ⊕ Nat)) := [ev_no, ev_no, ev_oi (ev_dup 291), ev_oi (ev_push 292 (ev_int 0)), ev_oi (ev_push 293 (ev_int 0)), ev_oi (ev_newa 295 11 0 72 3822), ev_no, ev_oi (ev_asta 296 10 11), ev_oi (ev_dup 297), ev_oi (ev_push 298 (ev_int 1)), ev_oi (ev_push 299 (ev_int 1)), ev_oi (ev_newa 301 11 0 72 3822), ev_no, ev_oi (ev_dup 302), ev_oi (ev_push 303 (ev_int 0)), ev_oi (ev_push 305 (ev_int 101))]
noncomputable def ev_r74_19 (E : ev_E) : List (Option (ev_I ⊕ Nat)) := [ev_no, ev_oi (ev_ast 306 11 2), ev_oi (ev_asta 307 10 11), ev_oi (ev_dup 308), ev_oi (ev_push 309 (ev_int 2)), ev_oi (ev_push 310 (ev_int 1)), ev_oi (ev_newa 312 11 0 72 3822), ev_no, ev_oi (ev_dup 313), ev_oi (ev_push 314 (ev_int 0)), ev_oi (ev_push 316 (ev_int 102)), ev_no, ev_oi (ev_ast 317 11 2), ev_oi (ev_asta 318 10 11), ev_oi (ev_dup 319), ev_oi (ev_push 320 (ev_int 3))]
noncomputable def ev_r74_20 (E : ev_E) : List (Option (ev_I ⊕ Nat)) := [ev_oi (ev_push 321 (ev_int 2)), ev_oi (ev_newa 323 11 0 72 3822), ev_no, ev_oi (ev_dup 324), ev_oi (ev_push 325 (ev_int 0)), ev_oi (ev_push 327 (ev_int 101)), ev_no, ev_oi (ev_ast 328 11 2), ev_oi (ev_dup 329), ev_oi (ev_push 330 (ev_int 1)), ev_oi (ev_push 332 (ev_int 102)), ev_no, ev_oi (ev_ast 333 11 2), ev_oi (ev_asta 334 10 11), ev_oi (ev_dup 335), ev_oi (ev_push 336 (ev_int 4))]
noncomputable def ev_r74_21 (E : ev_E) : List (Option (ev_I ⊕ Nat)) := [ev_oi (ev_push 337 (ev_int 1)), ev_oi (ev_newa 339 11 0 72 3822), ev_no, ev_oi (ev_dup 340), ev_oi (ev_push 341 (ev_int 0)), ev_oi (ev_push 343 (ev_int 117)), ev_no, ev_oi (ev_ast 344 11 2), ev_oi (ev_asta 345 10 11), ev_oi (ev_dup 346), ev_oi (ev_push 347 (ev_int 5)), ev_oi (ev_push 348 (ev_int 2)), ev_oi (ev_newa 350 11 0 72 3822), ev_no, ev_oi (ev_dup 351), ev_oi (ev_push 352 (ev_int 0))]
noncomputable def ev_r74_22 (E : ev_E) : List (Option (ev_I ⊕ Nat)) := [ev_oi (ev_push 354 (ev_int 101)), ev_no, ev_oi (ev_ast 355 11 2), ev_oi (ev_dup 356), ev_oi (ev_push 357 (ev_int 1)), ev_oi (ev_push 359 (ev_int 117)), ev_no, ev_oi (ev_ast 360 11 2), ev_oi (ev_asta 361 10 11), ev_oi (ev_dup 362), ev_oi (ev_push 364 (ev_int 6)), ev_no, ev_oi (ev_push 365 (ev_int 2)), ev_oi (ev_newa 367 11 0 72 3822), ev_no, ev_oi (ev_dup 368)]
noncomputable def ev_r74_23 (E : ev_E) : List (Option (ev_I ⊕ Nat)) := [ev_oi (ev_push 369 (ev_int 0)), ev_oi (ev_push 371 (ev_int 102)), ev_no, ev_oi (ev_ast 372 11 2), ev_oi (ev_dup 373), ev_oi (ev_push 374 (ev_int 1)), ev_oi (ev_push 376 (ev_int 117)), ev_no, ev_oi (ev_ast 377 11 2), ev_oi (ev_asta 378 10 11), ev_oi (ev_dup 379), ev_oi (ev_push 381 (ev_int 7)), ev_no, ev_oi (ev_push 382 (ev_int 3)), ev_oi (ev_newa 384 11 0 72 3822), ev_no]
noncomputable def ev_r74_24 (E : ev_E) : List (Option (ev_I ⊕ Nat)) := [ev_oi (ev_dup 385), ev_oi (ev_push 386 (ev_int 0)), ev_oi (ev_push 388 (ev_int 101)), ev_no, ev_oi (ev_ast 389 11 2), ev_oi (ev_dup 390), ev_oi (ev_push 391 (ev_int 1)), ev_oi (ev_push 393 (ev_int 102)), ev_no, ev_oi (ev_ast 394 11 2), ev_oi (ev_dup 395), ev_oi (ev_push 396 (ev_int 2)), ev_oi (ev_push 398 (ev_int 117)), ev_no, ev_oi (ev_ast 399 11 2), ev_oi (ev_asta 400 10 11)]
noncomputable def ev_r74_25 (E : ev_E) : List (Option (ev_I ⊕ Nat)) := [ev_oi (ev_put 403 13 55 5), ev_no, ev_no, ev_oi (ev_aload 404 0), ev_oi (ev_push 407 (ev_int 256)), ev_no, ev_no, ev_oi (ev_newa 409 11 0 72 3822), ev_no, ev_oi (ev_put 412 13 57 5), ev_no, ev_no, ev_oi (ev_aload 413 0), ev_oi (ev_push 416 (ev_int 256)), ev_no, ev_no]
noncomputable def ev_r74_26 (E : ev_E) : List (Option (ev_I ⊕ Nat)) := [ev_oi (ev_newa 418 11 0 72 3822), ev_no, ev_oi (ev_put 421 13 58 5), ev_no, ev_no, ev_oi (ev_aload 422 0), ev_oi (ev_push 424 (ev_int 64)), ev_no, ev_oi (ev_newa 426 1 0 72 3822), ev_no, ev_oi (ev_put 429 13 59 5), ev_no, ev_no, ev_oi (ev_aload 430 0), ev_oi (ev_push 432 (ev_int 64)), ev_no]
noncomputable def ev_r74_27 (E : ev_E) : List (Option (ev_I ⊕ Nat)) := [ev_oi (ev_newa 434 1 0 72 3822), ev_no, ev_oi (ev_put 437 13 60 5), ev_no, ev_no, ev_oi (ev_aload 438 0), ev_oi (ev_push 440 (ev_int 64)), ev_no, ev_oi (ev_newa 443 15 2 72 3822), ev_no, ev_no, ev_oi (ev_put 446 13 61 5), ev_no, ev_no, ev_oi (ev_aload 447 0), ev_oi (ev_push 449 (ev_int 64))]
noncomputable def ev_r74_28 (E : ev_E) : List (Option (ev_I ⊕ Nat)) := [ev_no, ev_oi (ev_newa 452 15 2 72 3822), ev_no, ev_no, ev_oi (ev_put 455 13 62 5), ev_no, ev_no, ev_oi (ev_aload 456 0), ev_oi (ev_new 459 16 3 72 3822 ev_f16), ev_no, ev_no, ev_oi (ev_dup 460), ev_oi (ev_call 463 130 1 0 0 72 3822 (ev_recv 16) E), ev_no, ev_no, ev_oi (ev_put 466 13 65 5)]
noncomputable def ev_r74_29 (E : ev_E) : List (Option (ev_I ⊕ Nat)) := [ev_no, ev_no, ev_oi (ev_aload 467 0), ev_oi (ev_push 469 (ev_int 64)), ev_no, ev_oi (ev_newa 471 11 0 72 3822), ev_no, ev_oi (ev_put 474 13 66 5), ev_no, ev_no, ev_oi (ev_aload 475 0), ev_oi (ev_push 477 (ev_int 64)), ev_no, ev_oi (ev_newa 479 1 0 72 3822), ev_no, ev_oi (ev_put 482 13 71 5)]
noncomputable def ev_r74_30 (E : ev_E) : List (Option (ev_I ⊕ Nat)) := [ev_no, ev_no, ev_oi (ev_aload 483 0), ev_oi (ev_push 485 (ev_int 64)), ev_no, ev_oi (ev_newa 487 8 1 72 3822), ev_no, ev_oi (ev_put 490 13 72 5), ev_no, ev_no, ev_oi (ev_aload 491 0), ev_oi (ev_push 493 (ev_int 65)), ev_no, ev_oi (ev_newa 495 9 0 72 3822), ev_no, ev_oi (ev_put 498 13 75 5)]
noncomputable def ev_r74_31 (E : ev_E) : List (Option (ev_I ⊕ Nat)) := [ev_no, ev_no, ev_oi (ev_aload 499 0), ev_oi (ev_push 501 (ev_int 65)), ev_no, ev_oi (ev_newa 503 9 0 72 3822), ev_no, ev_oi (ev_put 506 13 76 5), ev_no, ev_no, ev_oi (ev_aload 507 0), ev_oi (ev_new 510 16 3 72 3822 ev_f16), ev_no, ev_no, ev_oi (ev_dup 511), ev_oi (ev_call 514 130 1 0 0 72 3822 (ev_recv 16) E)]
noncomputable def ev_r74_32 (E : ev_E) : List (Option (ev_I ⊕ Nat)) := [ev_no, ev_no, ev_oi (ev_put 517 13 84 5), ev_no, ev_no, ev_oi (ev_aload 518 0), ev_oi (ev_push 520 (ev_int 64)), ev_no, ev_oi (ev_newa 522 1 0 72 3822), ev_no, ev_oi (ev_put 525 13 86 5), ev_no, ev_no, ev_oi (ev_aload 526 0), ev_oi (ev_new 529 14 2 72 3822 ev_f14), ev_no]
noncomputable def ev_r74_33 (E : ev_E) : List (Option (ev_I ⊕ Nat)) := [ev_no, ev_oi (ev_dup 530), ev_oi (ev_call 533 101 1 1 16 72 3822 (ev_recv 14) E), ev_no, ev_no, ev_oi (ev_put 536 13 92 5), ev_no, ev_no, ev_oi (ev_aload 537 0), ev_oi (ev_new 540 14 2 72 3822 ev_f14), ev_no, ev_no, ev_oi (ev_dup 541), ev_oi (ev_call 544 101 1 1 16 72 3822 (ev_recv 14) E), ev_no, ev_no]
noncomputable def ev_r74_34 (E : ev_E) : List (Option (ev_I ⊕ Nat)) := [ev_oi (ev_put 547 13 99 5), ev_no, ev_no, ev_oi (ev_aload 548 0), ev_oi (ev_new 551 14 2 72 3822 ev_f14), ev_no, ev_no, ev_oi (ev_dup 552), ev_oi (ev_call 555 101 1 1 16 72 3822 (ev_recv 14) E), ev_no, ev_no, ev_oi (ev_put 558 13 100 5), ev_no, ev_no, ev_oi (ev_aload 559 0), ev_oi (ev_new 562 14 2 72 3822 ev_f14)]
noncomputable def ev_r74_35 (E : ev_E) : List (Option (ev_I ⊕ Nat)) := [ev_no, ev_no, ev_oi (ev_dup 563), ev_oi (ev_call 566 101 1 1 16 72 3822 (ev_recv 14) E), ev_no, ev_no, ev_oi (ev_put 569 13 101 5), ev_no, ev_no, ev_oi (ev_aload 570 0), ev_oi (ev_new 573 14 2 72 3822 ev_f14), ev_no, ev_no, ev_oi (ev_dup 574), ev_oi (ev_call 577 101 1 1 16 72 3822 (ev_recv 14) E), ev_no]
noncomputable def ev_r74_36 (E : ev_E) : List (Option (ev_I ⊕ Nat)) := [ev_no, ev_oi (ev_put 580 13 102 5), ev_no, ev_no, ev_oi (ev_aload 581 0), ev_oi (ev_call 584 77 1 6 30 72 3822 (ev_recv 13) E), ev_no, ev_no, ev_os 0, ev_no, ev_no, ev_no, ev_no, ev_no, ev_no, ev_no]
/-- 74: TextShellModel.<init>()V -/
noncomputable def ev_m74 (E : ev_E) : Nat → Option (ev_I ⊕ Nat) := ev_code [ev_r74_0 E, ev_r74_1 E, ev_r74_2 E, ev_r74_3 E, ev_r74_4 E, ev_r74_5 E, ev_r74_6 E, ev_r74_7 E, ev_r74_8 E, ev_r74_9 E, ev_r74_10 E, ev_r74_11 E, ev_r74_12 E, ev_r74_13 E, ev_r74_14 E, ev_r74_15 E, ev_r74_16 E, ev_r74_17 E, ev_r74_18 E, ev_r74_19 E, ev_r74_20 E, ev_r74_21 E, ev_r74_22 E, ev_r74_23 E, ev_r74_24 E, ev_r74_25 E, ev_r74_26 E, ev_r74_27 E, ev_r74_28 E, ev_r74_29 E, ev_r74_30 E, ev_r74_31 E, ev_r74_32 E, ev_r74_33 E, ev_r74_34 E, ev_r74_35 E, ev_r74_36 E]
noncomputable def ev_r75_0 (E : ev_E) : List (Option (ev_I ⊕ Nat)) := [ev_oi (ev_iload 1 1), ev_oi (ev_push 2 (ev_int 1)), ev_oi (ev_icmp 0 5 10), ev_no, ev_no, ev_oi (ev_iload 6 1), ev_oi (ev_push 7 (ev_int 4)), ev_oi (ev_icmp 1 10 159), ev_no, ev_no, ev_oi (ev_aload 11 2), ev_oi (ev_alen 12), ev_oi (ev_if 0 15 23), ev_no, ev_no, ev_no]
noncomputable def ev_r75_1 (E : ev_E) : List (Option (ev_I ⊕ Nat)) := [ev_no, ev_no, ev_no, ev_no, ev_no, ev_no, ev_no, ev_oi (ev_push 24 ev_null), ev_oi (ev_goto 36), ev_no, ev_no, ev_no, ev_no, ev_no, ev_no, ev_no]
noncomputable def ev_r75_2 (E : ev_E) : List (Option (ev_I ⊕ Nat)) := [ev_no, ev_no, ev_no, ev_no, ev_oi (ev_astore 37 3), ev_oi (ev_aload 38 3), ev_oi (ev_ifnull 41 58), ev_no, ev_no, ev_no, ev_no, ev_no, ev_no, ev_no, ev_no, ev_no]
noncomputable def ev_r75_3 (E : ev_E) : List (Option (ev_I ⊕ Nat)) := [ev_no, ev_no, ev_no, ev_no, ev_no, ev_no, ev_no, ev_no, ev_no, ev_no, ev_oi (ev_push 59 (ev_int 0)), ev_os 2, ev_no, ev_no, ev_no, ev_no]
noncomputable def ev_r75_9 (E : ev_E) : List (Option (ev_I ⊕ Nat)) := [ev_no, ev_no, ev_no, ev_no, ev_no, ev_no, ev_no, ev_no, ev_no, ev_no, ev_no, ev_no, ev_no, ev_no, ev_no, ev_oi (ev_iload 160 1)]
noncomputable def ev_r75_10 (E : ev_E) : List (Option (ev_I ⊕ Nat)) := [ev_oi (ev_if 1 163 170), ev_no, ev_no, ev_oi (ev_aload 164 0), ev_oi (ev_get 167 13 24), ev_no, ev_no, ev_oi (ev_goto 186), ev_no, ev_no, ev_oi (ev_iload 171 1), ev_oi (ev_push 172 (ev_int 2)), ev_oi (ev_icmp 1 175 182), ev_no, ev_no, ev_oi (ev_aload 176 0)]
noncomputable def ev_r75_11 (E : ev_E) : List (Option (ev_I ⊕ Nat)) := [ev_oi (ev_get 179 13 26), ev_no, ev_no, ev_oi (ev_goto 186), ev_no, ev_no, ev_oi (ev_aload 183 0), ev_oi (ev_get 186 13 25), ev_no, ev_no, ev_oi (ev_aload 187 2), ev_oi (ev_push 188 (ev_int 0)), ev_oi (ev_call 191 121 3 0 0 0 0 (ev_recv 17) E), ev_no, ev_no, ev_oi (ev_astore 192 3)]
noncomputable def ev_r75_12 (E : ev_E) : List (Option (ev_I ⊕ Nat)) := [ev_oi (ev_aload 193 3), ev_oi (ev_ifnull 196 203), ev_no, ev_no, ev_no, ev_no, ev_no, ev_no, ev_no, ev_no, ev_no, ev_oi (ev_push 204 (ev_int 0)), ev_os 2, ev_no, ev_no, ev_no]
/-- 75: TextShellModel.answers(I[B)Z -/
noncomputable def ev_m75 (E : ev_E) : Nat → Option (ev_I ⊕ Nat) := ev_code [ev_r75_0 E, ev_r75_1 E, ev_r75_2 E, ev_r75_3 E, [], [], [], [], [], ev_r75_9 E, ev_r75_10 E, ev_r75_11 E, ev_r75_12 E]
noncomputable def ev_r76_0 (E : ev_E) : List (Option (ev_I ⊕ Nat)) := [ev_oi (ev_aload 1 0), ev_oi (ev_aload 2 0), ev_oi (ev_iload 3 2), ev_oi (ev_i2l 4), ev_oi (ev_call 7 84 2 0 0 1 0 (ev_recv 13) E), ev_no, ev_no, ev_oi (ev_if 0 10 19), ev_no, ev_no, ev_oi (ev_iload 11 1), ev_oi (ev_if 2 14 19), ev_no, ev_no, ev_oi (ev_iload 15 1), ev_oi (ev_push 16 (ev_int 4))]
noncomputable def ev_r76_1 (E : ev_E) : List (Option (ev_I ⊕ Nat)) := [ev_oi (ev_icmp 5 19 23), ev_no, ev_no, ev_oi (ev_push 20 (ev_int 1)), ev_oi (ev_goto 24), ev_no, ev_no, ev_oi (ev_push 24 (ev_int 0)), ev_oi (ev_push 25 (ev_int 0)), ev_oi (ev_call 28 81 3 0 0 1 0 (ev_recv 13) E), ev_no, ev_no, ev_oi (ev_if 0 31 33), ev_no, ev_no, ev_oi (ev_push 32 (ev_int 0))]
noncomputable def ev_r76_2 (E : ev_E) : List (Option (ev_I ⊕ Nat)) := [ev_os 1, ev_oi (ev_aload 34 0), ev_oi (ev_iload 35 2), ev_oi (ev_call 38 99 2 1 0 1 0 (ev_recv 13) E), ev_no, ev_no, ev_oi (ev_astore 39 3), ev_oi (ev_aload 40 0), ev_oi (ev_get 43 13 102), ev_no, ev_no, ev_oi (ev_push 44 (ev_int 0)), ev_oi (ev_put 47 14 1 0), ev_no, ev_no, ev_oi (ev_aload 48 0)]
noncomputable def ev_r76_3 (E : ev_E) : List (Option (ev_I ⊕ Nat)) := [ev_oi (ev_aload 49 0), ev_oi (ev_iload 50 1), ev_oi (ev_aload 51 3), ev_oi (ev_call 54 75 3 0 0 1 0 (ev_recv 13) E), ev_no, ev_no, ev_oi (ev_put 57 13 96 1), ev_no, ev_no, ev_oi (ev_aload 58 0), ev_oi (ev_get 61 13 96), ev_no, ev_no, ev_oi (ev_if 0 64 74), ev_no, ev_no]
noncomputable def ev_r76_4 (E : ev_E) : List (Option (ev_I ⊕ Nat)) := [ev_no, ev_no, ev_no, ev_no, ev_no, ev_no, ev_no, ev_no, ev_no, ev_no, ev_oi (ev_push 75 (ev_int (-1))), ev_os 1, ev_no, ev_no, ev_no, ev_no]
/-- 76: TextShellModel.ask(II)I -/
noncomputable def ev_m76 (E : ev_E) : Nat → Option (ev_I ⊕ Nat) := ev_code [ev_r76_0 E, ev_r76_1 E, ev_r76_2 E, ev_r76_3 E, ev_r76_4 E]
noncomputable def ev_r77_0 (E : ev_E) : List (Option (ev_I ⊕ Nat)) := [ev_oi (ev_aload 1 0), ev_oi (ev_get 4 13 24), ev_no, ev_no, ev_oi (ev_call 7 120 1 0 0 6 30 (ev_recv 17) E), ev_no, ev_no, ev_oi (ev_aload 8 0), ev_oi (ev_get 11 13 25), ev_no, ev_no, ev_oi (ev_call 14 120 1 0 0 6 30 (ev_recv 17) E), ev_no, ev_no, ev_oi (ev_aload 15 0), ev_oi (ev_get 18 13 26)]
noncomputable def ev_r77_1 (E : ev_E) : List (Option (ev_I ⊕ Nat)) := [ev_no, ev_no, ev_oi (ev_call 21 120 1 0 0 6 30 (ev_recv 17) E), ev_no, ev_no, ev_oi (ev_aload 22 0), ev_oi (ev_push 23 (ev_int 0)), ev_oi (ev_newa 26 10 2 6 30), ev_no, ev_no, ev_oi (ev_put 29 13 27 5), ev_no, ev_no, ev_oi (ev_aload 30 0), ev_oi (ev_push 31 (ev_int 0)), ev_oi (ev_put 34 13 28 0)]
noncomputable def ev_r77_2 (E : ev_E) : List (Option (ev_I ⊕ Nat)) := [ev_no, ev_no, ev_oi (ev_aload 35 0), ev_oi (ev_push 36 (ev_int 0)), ev_oi (ev_put 39 13 29 0), ev_no, ev_no, ev_oi (ev_aload 40 0), ev_oi (ev_push 41 (ev_int 0)), ev_oi (ev_put 44 13 30 1), ev_no, ev_no, ev_oi (ev_aload 45 0), ev_oi (ev_push 46 (ev_int 0)), ev_oi (ev_put 49 13 31 1), ev_no]
noncomputable def ev_r77_3 (E : ev_E) : List (Option (ev_I ⊕ Nat)) := [ev_no, ev_oi (ev_aload 50 0), ev_oi (ev_push 51 (ev_int 0)), ev_oi (ev_put 54 13 32 1), ev_no, ev_no, ev_oi (ev_aload 55 0), ev_oi (ev_push 56 (ev_int 0)), ev_oi (ev_put 59 13 33 0), ev_no, ev_no, ev_oi (ev_aload 60 0), ev_oi (ev_new 63 15 7 6 30 ev_f15), ev_no, ev_no, ev_oi (ev_dup 64)]
noncomputable def ev_r77_4 (E : ev_E) : List (Option (ev_I ⊕ Nat)) := [ev_oi (ev_push 65 (ev_int 0)), ev_oi (ev_newa 67 11 0 6 30), ev_no, ev_oi (ev_push 68 (ev_int 1)), ev_oi (ev_call 71 104 3 0 0 6 30 (ev_recv 15) E), ev_no, ev_no, ev_oi (ev_put 74 13 14 5), ev_no, ev_no, ev_oi (ev_aload 75 0), ev_oi (ev_aload 76 0), ev_oi (ev_get 79 13 14), ev_no, ev_no, ev_oi (ev_put 82 13 15 5)]
noncomputable def ev_r77_5 (E : ev_E) : List (Option (ev_I ⊕ Nat)) := [ev_no, ev_no, ev_oi (ev_aload 83 0), ev_oi (ev_push 84 (ev_int 0)), ev_oi (ev_put 87 13 16 0), ev_no, ev_no, ev_oi (ev_aload 88 0), ev_oi (ev_push 89 (ev_int 1)), ev_oi (ev_put 92 13 17 0), ev_no, ev_no, ev_oi (ev_aload 93 0), ev_oi (ev_push 94 (ev_int 0)), ev_oi (ev_put 97 13 18 0), ev_no]
noncomputable def ev_r77_6 (E : ev_E) : List (Option (ev_I ⊕ Nat)) := [ev_no, ev_oi (ev_aload 98 0), ev_oi (ev_push 99 ev_null), ev_oi (ev_put 102 13 93 5), ev_no, ev_no, ev_oi (ev_aload 103 0), ev_oi (ev_push 104 (ev_int 0)), ev_oi (ev_put 107 13 94 1), ev_no, ev_no, ev_oi (ev_aload 108 0), ev_oi (ev_push 109 (ev_int 0)), ev_oi (ev_put 112 13 95 1), ev_no, ev_no]
noncomputable def ev_r77_7 (E : ev_E) : List (Option (ev_I ⊕ Nat)) := [ev_oi (ev_aload 113 0), ev_oi (ev_push 114 (ev_int 0)), ev_oi (ev_put 117 13 96 1), ev_no, ev_no, ev_oi (ev_aload 118 0), ev_oi (ev_push 119 (ev_int 0)), ev_oi (ev_put 122 13 41 0), ev_no, ev_no, ev_oi (ev_aload 123 0), ev_oi (ev_get 126 13 100), ev_no, ev_no, ev_oi (ev_push 127 (ev_int 0)), ev_oi (ev_put 130 14 1 0)]
noncomputable def ev_r77_8 (E : ev_E) : List (Option (ev_I ⊕ Nat)) := [ev_no, ev_no, ev_oi (ev_aload 131 0), ev_oi (ev_get 134 13 101), ev_no, ev_no, ev_oi (ev_push 135 (ev_int 0)), ev_oi (ev_put 138 14 1 0), ev_no, ev_no, ev_oi (ev_aload 139 0), ev_oi (ev_push 140 (ev_int 0)), ev_oi (ev_new 143 14 2 6 30 ev_f14), ev_no, ev_no, ev_oi (ev_dup 144)]
noncomputable def ev_r77_9 (E : ev_E) : List (Option (ev_I ⊕ Nat)) := [ev_oi (ev_call 147 101 1 1 16 6 30 (ev_recv 14) E), ev_no, ev_no, ev_oi (ev_push 148 (ev_int 0)), ev_oi (ev_push 149 ev_null), ev_oi (ev_call 152 89 4 1 5 6 30 ev_rc1 E), ev_no, ev_no, ev_oi (ev_put 155 13 103 5), ev_no, ev_no, ev_os 0, ev_no, ev_no, ev_no, ev_no]
/-- 77: TextShellModel.begin0()V -/
noncomputable def ev_m77 (E : ev_E) : Nat → Option (ev_I ⊕ Nat) := ev_code [ev_r77_0 E, ev_r77_1 E, ev_r77_2 E, ev_r77_3 E, ev_r77_4 E, ev_r77_5 E, ev_r77_6 E, ev_r77_7 E, ev_r77_8 E, ev_r77_9 E]
noncomputable def ev_r78_0 (E : ev_E) : List (Option (ev_I ⊕ Nat)) := [ev_oi (ev_aload 1 0), ev_oi (ev_push 2 (ev_int 0)), ev_oi (ev_put 5 13 91 0), ev_no, ev_no, ev_oi (ev_iload 6 1), ev_oi (ev_if 1 9 23), ev_no, ev_no, ev_oi (ev_aload 10 0), ev_oi (ev_get 13 13 95), ev_no, ev_no, ev_oi (ev_if 0 16 23), ev_no, ev_no]
noncomputable def ev_r78_1 (E : ev_E) : List (Option (ev_I ⊕ Nat)) := [ev_no, ev_no, ev_no, ev_no, ev_no, ev_no, ev_no, ev_oi (ev_iload 24 1), ev_oi (ev_push 25 (ev_int 1)), ev_oi (ev_icmp 1 28 35), ev_no, ev_no, ev_oi (ev_aload 29 0), ev_oi (ev_get 32 13 100), ev_no, ev_no]
noncomputable def ev_r78_2 (E : ev_E) : List (Option (ev_I ⊕ Nat)) := [ev_oi (ev_goto 67), ev_no, ev_no, ev_oi (ev_iload 36 1), ev_oi (ev_push 37 (ev_int 2)), ev_oi (ev_icmp 1 40 47), ev_no, ev_no, ev_oi (ev_aload 41 0), ev_oi (ev_get 44 13 101), ev_no, ev_no, ev_oi (ev_goto 67), ev_no, ev_no, ev_oi (ev_iload 48 1)]
noncomputable def ev_r78_3 (E : ev_E) : List (Option (ev_I ⊕ Nat)) := [ev_oi (ev_push 49 (ev_int 3)), ev_oi (ev_icmp 1 52 66), ev_no, ev_no, ev_oi (ev_aload 53 0), ev_oi (ev_get 56 13 96), ev_no, ev_no, ev_oi (ev_if 0 59 66), ev_no, ev_no, ev_no, ev_no, ev_no, ev_no, ev_no]
noncomputable def ev_r78_4 (E : ev_E) : List (Option (ev_I ⊕ Nat)) := [ev_no, ev_no, ev_oi (ev_push 67 ev_null), ev_oi (ev_astore 68 3), ev_oi (ev_aload 69 3), ev_oi (ev_ifnull 72 97), ev_no, ev_no, ev_oi (ev_iload 73 2), ev_oi (ev_if 2 76 97), ev_no, ev_no, ev_oi (ev_iload 77 2), ev_oi (ev_aload 78 3), ev_oi (ev_get 81 14 1), ev_no]
noncomputable def ev_r78_5 (E : ev_E) : List (Option (ev_I ⊕ Nat)) := [ev_no, ev_oi (ev_icmp 3 84 97), ev_no, ev_no, ev_no, ev_no, ev_no, ev_no, ev_no, ev_no, ev_no, ev_no, ev_no, ev_no, ev_no, ev_no]
noncomputable def ev_r78_6 (E : ev_E) : List (Option (ev_I ⊕ Nat)) := [ev_no, ev_oi (ev_push 98 (ev_int (-1))), ev_os 1, ev_no, ev_no, ev_no, ev_no, ev_no, ev_no, ev_no, ev_no, ev_no, ev_no, ev_no, ev_no, ev_no]
/-- 78: TextShellModel.byteAt(II)I -/
noncomputable def ev_m78 (E : ev_E) : Nat → Option (ev_I ⊕ Nat) := ev_code [ev_r78_0 E, ev_r78_1 E, ev_r78_2 E, ev_r78_3 E, ev_r78_4 E, ev_r78_5 E, ev_r78_6 E]
noncomputable def ev_r79_0 (E : ev_E) : List (Option (ev_I ⊕ Nat)) := [ev_oi (ev_aload 1 0), ev_oi (ev_push 2 (ev_int 0)), ev_oi (ev_put 5 13 91 0), ev_no, ev_no, ev_oi (ev_aload 6 0), ev_oi (ev_get 9 13 100), ev_no, ev_no, ev_oi (ev_get 12 14 1), ev_no, ev_no, ev_oi (ev_aload 13 0), ev_oi (ev_get 16 13 101), ev_no, ev_no]
noncomputable def ev_r79_1 (E : ev_E) : List (Option (ev_I ⊕ Nat)) := [ev_oi (ev_get 19 14 1), ev_no, ev_no, ev_oi (ev_bin ev_add 20), ev_oi (ev_istore 21 1), ev_oi (ev_aload 22 0), ev_oi (ev_get 25 13 100), ev_no, ev_no, ev_oi (ev_push 26 (ev_int 0)), ev_oi (ev_put 29 14 1 0), ev_no, ev_no, ev_oi (ev_aload 30 0), ev_oi (ev_get 33 13 101), ev_no]
noncomputable def ev_r79_2 (E : ev_E) : List (Option (ev_I ⊕ Nat)) := [ev_no, ev_oi (ev_push 34 (ev_int 0)), ev_oi (ev_put 37 14 1 0), ev_no, ev_no, ev_oi (ev_iload 38 1), ev_os 1, ev_no, ev_no, ev_no, ev_no, ev_no, ev_no, ev_no, ev_no, ev_no]
/-- 79: TextShellModel.clear()I -/
noncomputable def ev_m79 (E : ev_E) : Nat → Option (ev_I ⊕ Nat) := ev_code [ev_r79_0 E, ev_r79_1 E, ev_r79_2 E]
noncomputable def ev_r80_0 (E : ev_E) : List (Option (ev_I ⊕ Nat)) := [ev_oi (ev_aload 1 0), ev_oi (ev_push 2 (ev_int 0)), ev_oi (ev_put 5 13 91 0), ev_no, ev_no, ev_oi (ev_iload 6 1), ev_oi (ev_tsw 0 [96, 104, 109, 117, 125, 144, 152, 160, 168, 176, 181, 186, 191, 196, 201, 207, 213, 230, 246] 265), ev_no, ev_no, ev_no, ev_no, ev_no, ev_no, ev_no, ev_no, ev_no]
noncomputable def ev_r80_6 (E : ev_E) : List (Option (ev_I ⊕ Nat)) := [ev_oi (ev_aload 97 0), ev_oi (ev_get 100 13 92), ev_no, ev_no, ev_oi (ev_get 103 14 1), ev_no, ev_no, ev_os 1, ev_oi (ev_aload 105 0), ev_oi (ev_get 108 13 33), ev_no, ev_no, ev_os 1, ev_oi (ev_aload 110 0), ev_oi (ev_get 113 13 100), ev_no]
noncomputable def ev_r80_7 (E : ev_E) : List (Option (ev_I ⊕ Nat)) := [ev_no, ev_oi (ev_get 116 14 1), ev_no, ev_no, ev_os 1, ev_oi (ev_aload 118 0), ev_oi (ev_get 121 13 101), ev_no, ev_no, ev_oi (ev_get 124 14 1), ev_no, ev_no, ev_os 1, ev_oi (ev_aload 126 0), ev_oi (ev_get 129 13 103), ev_no]
noncomputable def ev_r80_8 (E : ev_E) : List (Option (ev_I ⊕ Nat)) := [ev_no, ev_oi (ev_get 132 18 3), ev_no, ev_no, ev_oi (ev_get 135 14 1), ev_no, ev_no, ev_oi (ev_aload 136 0), ev_oi (ev_get 139 13 103), ev_no, ev_no, ev_oi (ev_get 142 18 1), ev_no, ev_no, ev_oi (ev_bin ev_sub 143), ev_os 1]
noncomputable def ev_r80_9 (E : ev_E) : List (Option (ev_I ⊕ Nat)) := [ev_oi (ev_aload 145 0), ev_oi (ev_get 148 13 24), ev_no, ev_no, ev_oi (ev_get 151 17 2), ev_no, ev_no, ev_os 1, ev_oi (ev_aload 153 0), ev_oi (ev_get 156 13 24), ev_no, ev_no, ev_oi (ev_get 159 17 3), ev_no, ev_no, ev_os 1]
noncomputable def ev_r80_10 (E : ev_E) : List (Option (ev_I ⊕ Nat)) := [ev_oi (ev_aload 161 0), ev_oi (ev_get 164 13 25), ev_no, ev_no, ev_oi (ev_get 167 17 2), ev_no, ev_no, ev_os 1, ev_oi (ev_aload 169 0), ev_oi (ev_get 172 13 26), ev_no, ev_no, ev_oi (ev_get 175 17 2), ev_no, ev_no, ev_os 1]
noncomputable def ev_r80_11 (E : ev_E) : List (Option (ev_I ⊕ Nat)) := [ev_oi (ev_aload 177 0), ev_oi (ev_get 180 13 29), ev_no, ev_no, ev_os 1, ev_oi (ev_aload 182 0), ev_oi (ev_get 185 13 16), ev_no, ev_no, ev_os 1, ev_oi (ev_aload 187 0), ev_oi (ev_get 190 13 17), ev_no, ev_no, ev_os 1, ev_oi (ev_aload 192 0)]
noncomputable def ev_r80_12 (E : ev_E) : List (Option (ev_I ⊕ Nat)) := [ev_oi (ev_get 195 13 18), ev_no, ev_no, ev_os 1, ev_oi (ev_aload 197 0), ev_oi (ev_get 200 13 41), ev_no, ev_no, ev_os 1, ev_oi (ev_aload 202 0), ev_oi (ev_get 205 13 8), ev_no, ev_no, ev_oi (ev_l2i 206), ev_os 1, ev_oi (ev_aload 208 0)]
noncomputable def ev_r80_13 (E : ev_E) : List (Option (ev_I ⊕ Nat)) := [ev_oi (ev_get 211 13 23), ev_no, ev_no, ev_oi (ev_l2i 212), ev_os 1, ev_oi (ev_aload 214 0), ev_oi (ev_get 217 13 23), ev_no, ev_no, ev_oi (ev_push 220 (.inr (.inl (128000, 128000)))), ev_no, ev_no, ev_oi (ev_lcmp 221), ev_oi (ev_if 2 224 228), ev_no, ev_no]
noncomputable def ev_r80_14 (E : ev_E) : List (Option (ev_I ⊕ Nat)) := [ev_no, ev_no, ev_no, ev_no, ev_oi (ev_push 229 (ev_int 0)), ev_os 1, ev_oi (ev_aload 231 0), ev_oi (ev_get 234 13 94), ev_no, ev_no, ev_oi (ev_if 0 237 244), ev_no, ev_no, ev_no, ev_no, ev_no]
noncomputable def ev_r80_15 (E : ev_E) : List (Option (ev_I ⊕ Nat)) := [ev_no, ev_no, ev_no, ev_no, ev_oi (ev_push 245 (ev_int (-1))), ev_os 1, ev_oi (ev_aload 247 0), ev_oi (ev_get 250 13 95), ev_no, ev_no, ev_oi (ev_if 0 253 263), ev_no, ev_no, ev_no, ev_no, ev_no]
noncomputable def ev_r80_16 (E : ev_E) : List (Option (ev_I ⊕ Nat)) := [ev_no, ev_no, ev_no, ev_no, ev_no, ev_no, ev_no, ev_oi (ev_push 264 (ev_int (-1))), ev_os 1, ev_oi (ev_push 266 (ev_int (-1))), ev_os 1, ev_no, ev_no, ev_no, ev_no, ev_no]
/-- 80: TextShellModel.count(I)I -/
noncomputable def ev_m80 (E : ev_E) : Nat → Option (ev_I ⊕ Nat) := ev_code [ev_r80_0 E, [], [], [], [], [], ev_r80_6 E, ev_r80_7 E, ev_r80_8 E, ev_r80_9 E, ev_r80_10 E, ev_r80_11 E, ev_r80_12 E, ev_r80_13 E, ev_r80_14 E, ev_r80_15 E, ev_r80_16 E]
noncomputable def ev_r81_0 (E : ev_E) : List (Option (ev_I ⊕ Nat)) := [ev_oi (ev_aload 1 0), ev_oi (ev_iload 2 1), ev_oi (ev_if 0 5 9), ev_no, ev_no, ev_oi (ev_push 6 (ev_int 1)), ev_oi (ev_goto 18), ev_no, ev_no, ev_oi (ev_iload 10 2), ev_oi (ev_if 0 13 17), ev_no, ev_no, ev_no, ev_no, ev_no]
noncomputable def ev_r81_1 (E : ev_E) : List (Option (ev_I ⊕ Nat)) := [ev_no, ev_oi (ev_push 18 (ev_int 0)), ev_oi (ev_put 21 13 91 0), ev_no, ev_no, ev_oi (ev_aload 22 0), ev_oi (ev_get 25 13 91), ev_no, ev_no, ev_oi (ev_if 5 28 32), ev_no, ev_no, ev_oi (ev_push 29 (ev_int 1)), ev_oi (ev_goto 33), ev_no, ev_no]
noncomputable def ev_r81_2 (E : ev_E) : List (Option (ev_I ⊕ Nat)) := [ev_oi (ev_push 33 (ev_int 0)), ev_os 2, ev_no, ev_no, ev_no, ev_no, ev_no, ev_no, ev_no, ev_no, ev_no, ev_no, ev_no, ev_no, ev_no, ev_no]
/-- 81: TextShellModel.fails(ZZ)Z -/
noncomputable def ev_m81 (E : ev_E) : Nat → Option (ev_I ⊕ Nat) := ev_code [ev_r81_0 E, ev_r81_1 E, ev_r81_2 E]
noncomputable def ev_r82_0 (E : ev_E) : List (Option (ev_I ⊕ Nat)) := [ev_oi (ev_aload 1 0), ev_oi (ev_push 2 (ev_int 0)), ev_oi (ev_put 5 13 91 0), ev_no, ev_no, ev_oi (ev_aload 6 0), ev_oi (ev_get 9 13 92), ev_no, ev_no, ev_oi (ev_get 12 14 1), ev_no, ev_no, ev_oi (ev_push 14 (ev_int 20)), ev_no, ev_oi (ev_bin ev_add 15), ev_oi (ev_push 18 (ev_int 16384))]
noncomputable def ev_r82_1 (E : ev_E) : List (Option (ev_I ⊕ Nat)) := [ev_no, ev_no, ev_oi (ev_icmp 5 21 23), ev_no, ev_no, ev_no, ev_no, ev_oi (ev_aload 24 0), ev_oi (ev_iload 25 1), ev_oi (ev_call 28 83 2 4 128 20 640 (ev_recv 13) E), ev_no, ev_no, ev_oi (ev_aload 29 0), ev_oi (ev_iload 30 2), ev_oi (ev_call 33 83 2 4 128 20 640 (ev_recv 13) E), ev_no]
noncomputable def ev_r82_2 (E : ev_E) : List (Option (ev_I ⊕ Nat)) := [ev_no, ev_oi (ev_aload 34 0), ev_oi (ev_iload 35 3), ev_oi (ev_call 38 83 2 4 128 20 640 (ev_recv 13) E), ev_no, ev_no, ev_oi (ev_aload 39 0), ev_oi (ev_iload 41 4), ev_no, ev_oi (ev_call 44 83 2 4 128 20 640 (ev_recv 13) E), ev_no, ev_no, ev_oi (ev_aload 45 0), ev_oi (ev_iload 47 5), ev_no, ev_oi (ev_call 50 83 2 4 128 20 640 (ev_recv 13) E)]
noncomputable def ev_r82_3 (E : ev_E) : List (Option (ev_I ⊕ Nat)) := [ev_no, ev_no, ev_oi (ev_aload 51 0), ev_oi (ev_get 54 13 92), ev_no, ev_no, ev_oi (ev_get 57 14 1), ev_no, ev_no, ev_os 1, ev_no, ev_no, ev_no, ev_no, ev_no, ev_no]
/-- 82: TextShellModel.feed(IIIII)I -/
noncomputable def ev_m82 (E : ev_E) : Nat → Option (ev_I ⊕ Nat) := ev_code [ev_r82_0 E, ev_r82_1 E, ev_r82_2 E, ev_r82_3 E]
noncomputable def ev_r83_0 (E : ev_E) : List (Option (ev_I ⊕ Nat)) := [ev_oi (ev_push 1 (ev_int 3)), ev_oi (ev_istore 2 2), ev_oi (ev_iload 3 2), ev_oi (ev_if 2 6 25), ev_no, ev_no, ev_oi (ev_aload 7 0), ev_oi (ev_get 10 13 92), ev_no, ev_no, ev_oi (ev_iload 11 1), ev_oi (ev_push 13 (ev_int 8)), ev_no, ev_oi (ev_iload 14 2), ev_oi (ev_bin ev_mul 15), ev_oi (ev_shr 16)]
noncomputable def ev_r83_1 (E : ev_E) : List (Option (ev_I ⊕ Nat)) := [ev_oi (ev_call 19 102 2 1 32 4 128 (ev_recv 14) E), ev_no, ev_no, ev_oi (ev_iinc 22 2 (-1)), ev_no, ev_no, ev_oi (ev_goto 2), ev_no, ev_no, ev_os 0, ev_no, ev_no, ev_no, ev_no, ev_no, ev_no]
/-- 83: TextShellModel.five(I)V -/
noncomputable def ev_m83 (E : ev_E) : Nat → Option (ev_I ⊕ Nat) := ev_code [ev_r83_0 E, ev_r83_1 E]
noncomputable def ev_r84_0 (E : ev_E) : List (Option (ev_I ⊕ Nat)) := [ev_oi (ev_lload 1 1), ev_oi (ev_push 2 (.inr (.inl (0, 0)))), ev_oi (ev_lcmp 3), ev_oi (ev_if 2 6 23), ev_no, ev_no, ev_oi (ev_lload 7 1), ev_oi (ev_aload 8 0), ev_oi (ev_get 11 13 92), ev_no, ev_no, ev_oi (ev_get 14 14 1), ev_no, ev_no, ev_oi (ev_i2l 15), ev_oi (ev_lcmp 16)]
noncomputable def ev_r84_1 (E : ev_E) : List (Option (ev_I ⊕ Nat)) := [ev_oi (ev_if 4 19 23), ev_no, ev_no, ev_oi (ev_push 20 (ev_int 1)), ev_oi (ev_goto 24), ev_no, ev_no, ev_oi (ev_push 24 (ev_int 0)), ev_oi (ev_istore 25 3), ev_oi (ev_push 26 (ev_int 0)), ev_oi (ev_istore 28 4), ev_no, ev_oi (ev_iload 29 3), ev_oi (ev_if 0 32 60), ev_no, ev_no]
noncomputable def ev_r84_2 (E : ev_E) : List (Option (ev_I ⊕ Nat)) := [ev_oi (ev_iload 34 4), ev_no, ev_oi (ev_i2l 35), ev_oi (ev_lload 36 1), ev_oi (ev_lcmp 37), ev_oi (ev_if 3 40 60), ev_no, ev_no, ev_no, ev_no, ev_no, ev_no, ev_no, ev_no, ev_no, ev_no]
noncomputable def ev_r84_3 (E : ev_E) : List (Option (ev_I ⊕ Nat)) := [ev_no, ev_no, ev_no, ev_no, ev_no, ev_no, ev_no, ev_no, ev_no, ev_no, ev_no, ev_no, ev_oi (ev_iload 61 3), ev_os 2, ev_no, ev_no]
/-- 84: TextShellModel.has(J)Z -/
noncomputable def ev_m84 (E : ev_E) : Nat → Option (ev_I ⊕ Nat) := ev_code [ev_r84_0 E, ev_r84_1 E, ev_r84_2 E, ev_r84_3 E]
noncomputable def ev_r85_0 (E : ev_E) : List (Option (ev_I ⊕ Nat)) := [ev_oi (ev_aload 1 0), ev_oi (ev_aload 2 0), ev_oi (ev_iload 3 1), ev_oi (ev_i2l 4), ev_oi (ev_call 7 84 2 0 0 4 23 (ev_recv 13) E), ev_no, ev_no, ev_oi (ev_if 1 10 14), ev_no, ev_no, ev_oi (ev_push 11 (ev_int 1)), ev_oi (ev_goto 15), ev_no, ev_no, ev_oi (ev_push 15 (ev_int 0)), ev_oi (ev_push 16 (ev_int 0))]
noncomputable def ev_r85_1 (E : ev_E) : List (Option (ev_I ⊕ Nat)) := [ev_oi (ev_call 19 81 3 0 0 4 23 (ev_recv 13) E), ev_no, ev_no, ev_oi (ev_if 0 22 23), ev_no, ev_no, ev_os 0, ev_oi (ev_aload 24 0), ev_oi (ev_iload 25 1), ev_oi (ev_call 28 99 2 1 0 4 23 (ev_recv 13) E), ev_no, ev_no, ev_oi (ev_astore 29 2), ev_oi (ev_new 32 14 2 4 23 ev_f14), ev_no, ev_no]
noncomputable def ev_r85_2 (E : ev_E) : List (Option (ev_I ⊕ Nat)) := [ev_oi (ev_dup 33), ev_oi (ev_call 36 101 1 1 16 4 23 (ev_recv 14) E), ev_no, ev_no, ev_oi (ev_astore 37 3), ev_oi (ev_aload 38 3), ev_oi (ev_aload 39 2), ev_oi (ev_put 42 14 0 5), ev_no, ev_no, ev_oi (ev_aload 43 3), ev_oi (ev_iload 44 1), ev_oi (ev_put 47 14 1 0), ev_no, ev_no, ev_oi (ev_aload 48 0)]
noncomputable def ev_r85_3 (E : ev_E) : List (Option (ev_I ⊕ Nat)) := [ev_oi (ev_push 49 (ev_int 0)), ev_oi (ev_aload 50 3), ev_oi (ev_push 51 (ev_int 0)), ev_oi (ev_push 52 ev_null), ev_oi (ev_call 55 89 4 1 5 4 23 ev_rc1 E), ev_no, ev_no, ev_oi (ev_put 58 13 103 5), ev_no, ev_no, ev_os 0, ev_no, ev_no, ev_no, ev_no, ev_no]
/-- 85: TextShellModel.input(I)V -/
noncomputable def ev_m85 (E : ev_E) : Nat → Option (ev_I ⊕ Nat) := ev_code [ev_r85_0 E, ev_r85_1 E, ev_r85_2 E, ev_r85_3 E]
noncomputable def ev_r86_0 (E : ev_E) : List (Option (ev_I ⊕ Nat)) := [ev_oi (ev_aload 1 0), ev_oi (ev_ifnull 4 23), ev_no, ev_no, ev_oi (ev_aload 5 0), ev_oi (ev_push 6 (ev_int 0)), ev_oi (ev_call 9 88 2 0 0 0 0 ev_rc1 E), ev_no, ev_no, ev_oi (ev_aload 10 0), ev_oi (ev_alen 11), ev_oi (ev_icmp 1 14 23), ev_no, ev_no, ev_oi (ev_aload 15 0), ev_oi (ev_alen 16)]
noncomputable def ev_r86_1 (E : ev_E) : List (Option (ev_I ⊕ Nat)) := [ev_oi (ev_if 5 19 23), ev_no, ev_no, ev_no, ev_no, ev_no, ev_no, ev_oi (ev_push 24 (ev_int 0)), ev_os 2, ev_no, ev_no, ev_no, ev_no, ev_no, ev_no, ev_no]
/-- 86: TextShellModel.isName([B)Z -/
noncomputable def ev_m86 (E : ev_E) : Nat → Option (ev_I ⊕ Nat) := ev_code [ev_r86_0 E, ev_r86_1 E]
noncomputable def ev_r87_0 (E : ev_E) : List (Option (ev_I ⊕ Nat)) := [ev_oi (ev_push 1 (ev_int 1)), ev_oi (ev_istore 2 1), ev_oi (ev_push 3 (ev_int 0)), ev_oi (ev_istore 4 2), ev_oi (ev_iload 5 2), ev_oi (ev_aload 6 0), ev_oi (ev_alen 7), ev_oi (ev_icmp 3 10 35), ev_no, ev_no, ev_no, ev_no, ev_no, ev_no, ev_no, ev_no]
noncomputable def ev_r87_2 (E : ev_E) : List (Option (ev_I ⊕ Nat)) := [ev_no, ev_no, ev_no, ev_oi (ev_iload 36 1), ev_os 2, ev_no, ev_no, ev_no, ev_no, ev_no, ev_no, ev_no, ev_no, ev_no, ev_no, ev_no]
/-- 87: TextShellModel.isText([B)Z -/
noncomputable def ev_m87 (E : ev_E) : Nat → Option (ev_I ⊕ Nat) := ev_code [ev_r87_0 E, [], ev_r87_2 E]
noncomputable def ev_r88_0 (E : ev_E) : List (Option (ev_I ⊕ Nat)) := [ev_oi (ev_iload 1 1), ev_oi (ev_aload 2 0), ev_oi (ev_alen 3), ev_oi (ev_icmp 3 6 15), ev_no, ev_no, ev_no, ev_no, ev_no, ev_no, ev_no, ev_no, ev_no, ev_no, ev_no, ev_oi (ev_iload 16 1)]
noncomputable def ev_r88_1 (E : ev_E) : List (Option (ev_I ⊕ Nat)) := [ev_os 1, ev_no, ev_no, ev_no, ev_no, ev_no, ev_no, ev_no, ev_no, ev_no, ev_no, ev_no, ev_no, ev_no, ev_no, ev_no]
/-- 88: TextShellModel.nameEnd([BI)I -/
noncomputable def ev_m88 (E : ev_E) : Nat → Option (ev_I ⊕ Nat) := ev_code [ev_r88_0 E, ev_r88_1 E]
noncomputable def ev_r89_0 (E : ev_E) : List (Option (ev_I ⊕ Nat)) := [ev_oi (ev_new 3 18 5 1 5 ev_f18), ev_no, ev_no, ev_oi (ev_dup 4), ev_oi (ev_call 7 105 1 0 0 1 5 (ev_recv 18) E), ev_no, ev_no, ev_oi (ev_astore 9 4), ev_no, ev_oi (ev_aload 11 4), ev_no, ev_oi (ev_iload 12 0), ev_oi (ev_put 15 18 0 0), ev_no, ev_no, ev_oi (ev_aload 17 4)]
noncomputable def ev_r89_1 (E : ev_E) : List (Option (ev_I ⊕ Nat)) := [ev_no, ev_oi (ev_aload 18 1), ev_oi (ev_put 21 18 3 5), ev_no, ev_no, ev_oi (ev_aload 23 4), ev_no, ev_oi (ev_iload 24 2), ev_oi (ev_put 27 18 2 0), ev_no, ev_no, ev_oi (ev_aload 29 4), ev_no, ev_oi (ev_aload 30 3), ev_oi (ev_put 33 18 4 5), ev_no]
noncomputable def ev_r89_2 (E : ev_E) : List (Option (ev_I ⊕ Nat)) := [ev_no, ev_oi (ev_aload 35 4), ev_no, ev_os 5, ev_no, ev_no, ev_no, ev_no, ev_no, ev_no, ev_no, ev_no, ev_no, ev_no, ev_no, ev_no]
/-- 89: TextShellModel.opened(ILTextShellModel$Bytes;ILTextShellModel$Node;)LTextShellModel$Open; -/
noncomputable def ev_m89 (E : ev_E) : Nat → Option (ev_I ⊕ Nat) := ev_code [ev_r89_0 E, ev_r89_1 E, ev_r89_2 E]
noncomputable def ev_r90_0 (E : ev_E) : List (Option (ev_I ⊕ Nat)) := [ev_oi (ev_iload 1 2), ev_oi (ev_iload 2 1), ev_oi (ev_bin ev_sub 3), ev_oi (ev_newa 5 11 0 1 0), ev_no, ev_oi (ev_astore 6 3), ev_oi (ev_iload 7 1), ev_oi (ev_istore 9 4), ev_no, ev_oi (ev_iload 11 4), ev_no, ev_oi (ev_iload 12 2), ev_oi (ev_icmp 3 15 31), ev_no, ev_no, ev_no]
noncomputable def ev_r90_1 (E : ev_E) : List (Option (ev_I ⊕ Nat)) := [ev_no, ev_no, ev_no, ev_no, ev_no, ev_no, ev_no, ev_no, ev_no, ev_no, ev_no, ev_no, ev_no, ev_no, ev_no, ev_oi (ev_aload 32 3)]
noncomputable def ev_r90_2 (E : ev_E) : List (Option (ev_I ⊕ Nat)) := [ev_os 5, ev_no, ev_no, ev_no, ev_no, ev_no, ev_no, ev_no, ev_no, ev_no, ev_no, ev_no, ev_no, ev_no, ev_no, ev_no]
/-- 90: TextShellModel.part([BII)[B -/
noncomputable def ev_m90 (E : ev_E) : Nat → Option (ev_I ⊕ Nat) := ev_code [ev_r90_0 E, ev_r90_1 E, ev_r90_2 E]
noncomputable def ev_r91_0 (E : ev_E) : List (Option (ev_I ⊕ Nat)) := [ev_oi (ev_aload 1 0), ev_oi (ev_aload 2 0), ev_oi (ev_get 5 13 94), ev_no, ev_no, ev_oi (ev_if 1 8 12), ev_no, ev_no, ev_oi (ev_push 9 (ev_int 1)), ev_oi (ev_goto 13), ev_no, ev_no, ev_no, ev_oi (ev_push 14 (ev_int 0)), ev_oi (ev_call 17 81 3 0 0 0 0 (ev_recv 13) E), ev_no]
noncomputable def ev_r91_1 (E : ev_E) : List (Option (ev_I ⊕ Nat)) := [ev_no, ev_oi (ev_if 0 20 22), ev_no, ev_no, ev_oi (ev_push 21 (ev_int 0)), ev_os 1, ev_no, ev_no, ev_no, ev_no, ev_no, ev_no, ev_no, ev_no, ev_no, ev_no]
/-- 91: TextShellModel.print()I -/
noncomputable def ev_m91 (E : ev_E) : Nat → Option (ev_I ⊕ Nat) := ev_code [ev_r91_0 E, ev_r91_1 E]
noncomputable def ev_r92_0 (E : ev_E) : List (Option (ev_I ⊕ Nat)) := [ev_oi (ev_iload 1 2), ev_oi (ev_if 2 4 33), ev_no, ev_no, ev_oi (ev_iload 5 3), ev_oi (ev_if 2 8 33), ev_no, ev_no, ev_oi (ev_aload 9 0), ev_oi (ev_iload 10 2), ev_oi (ev_i2l 11), ev_oi (ev_iload 12 3), ev_oi (ev_i2l 13), ev_oi (ev_ladd 14), ev_oi (ev_call 17 84 2 0 0 2 0 (ev_recv 13) E), ev_no]
noncomputable def ev_r92_1 (E : ev_E) : List (Option (ev_I ⊕ Nat)) := [ev_no, ev_oi (ev_if 0 20 33), ev_no, ev_no, ev_oi (ev_iload 21 1), ev_oi (ev_if 2 24 33), ev_no, ev_no, ev_oi (ev_iload 25 1), ev_oi (ev_push 26 (ev_int 4)), ev_oi (ev_icmp 3 29 33), ev_no, ev_no, ev_oi (ev_push 30 (ev_int 1)), ev_oi (ev_goto 34), ev_no]
noncomputable def ev_r92_2 (E : ev_E) : List (Option (ev_I ⊕ Nat)) := [ev_no, ev_oi (ev_push 34 (ev_int 0)), ev_oi (ev_istore 36 4), ev_no, ev_oi (ev_aload 37 0), ev_oi (ev_iload 39 4), ev_no, ev_oi (ev_if 1 42 46), ev_no, ev_no, ev_oi (ev_push 43 (ev_int 1)), ev_oi (ev_goto 47), ev_no, ev_no, ev_oi (ev_push 47 (ev_int 0)), ev_oi (ev_push 48 (ev_int 0))]
noncomputable def ev_r92_3 (E : ev_E) : List (Option (ev_I ⊕ Nat)) := [ev_oi (ev_call 51 81 3 0 0 2 0 (ev_recv 13) E), ev_no, ev_no, ev_oi (ev_if 0 54 56), ev_no, ev_no, ev_oi (ev_push 55 (ev_int 0)), ev_os 2, ev_oi (ev_aload 57 0), ev_oi (ev_get 60 13 92), ev_no, ev_no, ev_oi (ev_get 63 14 0), ev_no, ev_no, ev_oi (ev_push 64 (ev_int 0))]
noncomputable def ev_r92_4 (E : ev_E) : List (Option (ev_I ⊕ Nat)) := [ev_oi (ev_iload 65 2), ev_oi (ev_call 68 90 3 1 0 2 0 ev_rc1 E), ev_no, ev_no, ev_oi (ev_astore 70 5), ev_no, ev_oi (ev_aload 71 0), ev_oi (ev_get 74 13 92), ev_no, ev_no, ev_oi (ev_get 77 14 0), ev_no, ev_no, ev_oi (ev_iload 78 2), ev_oi (ev_iload 79 2), ev_oi (ev_iload 80 3)]
noncomputable def ev_r92_5 (E : ev_E) : List (Option (ev_I ⊕ Nat)) := [ev_oi (ev_bin ev_add 81), ev_oi (ev_call 84 90 3 1 0 2 0 ev_rc1 E), ev_no, ev_no, ev_oi (ev_astore 86 6), ev_no, ev_oi (ev_aload 87 0), ev_oi (ev_get 90 13 92), ev_no, ev_no, ev_oi (ev_push 91 (ev_int 0)), ev_oi (ev_put 94 14 1 0), ev_no, ev_no, ev_oi (ev_iload 95 1), ev_oi (ev_if 1 98 141)]
noncomputable def ev_r92_6 (E : ev_E) : List (Option (ev_I ⊕ Nat)) := [ev_no, ev_no, ev_oi (ev_aload 100 5), ev_no, ev_oi (ev_call 103 86 1 0 0 2 0 ev_rc1 E), ev_no, ev_no, ev_oi (ev_if 1 106 108), ev_no, ev_no, ev_oi (ev_push 107 (ev_int 0)), ev_os 2, ev_no, ev_no, ev_no, ev_no]
noncomputable def ev_r92_8 (E : ev_E) : List (Option (ev_I ⊕ Nat)) := [ev_no, ev_no, ev_no, ev_no, ev_no, ev_no, ev_no, ev_no, ev_no, ev_no, ev_no, ev_no, ev_no, ev_oi (ev_iload 142 1), ev_oi (ev_push 143 (ev_int 2)), ev_oi (ev_icmp 1 146 183)]
noncomputable def ev_r92_9 (E : ev_E) : List (Option (ev_I ⊕ Nat)) := [ev_no, ev_no, ev_oi (ev_aload 148 5), ev_no, ev_oi (ev_call 151 86 1 0 0 2 0 ev_rc1 E), ev_no, ev_no, ev_oi (ev_if 0 154 162), ev_no, ev_no, ev_no, ev_no, ev_no, ev_no, ev_no, ev_no]
noncomputable def ev_r92_10 (E : ev_E) : List (Option (ev_I ⊕ Nat)) := [ev_no, ev_no, ev_oi (ev_push 163 (ev_int 0)), ev_os 2, ev_no, ev_no, ev_no, ev_no, ev_no, ev_no, ev_no, ev_no, ev_no, ev_no, ev_no, ev_no]
noncomputable def ev_r92_11 (E : ev_E) : List (Option (ev_I ⊕ Nat)) := [ev_no, ev_no, ev_no, ev_no, ev_no, ev_no, ev_no, ev_oi (ev_iload 184 2), ev_oi (ev_if 0 187 196), ev_no, ev_no, ev_no, ev_no, ev_no, ev_no, ev_no]
noncomputable def ev_r92_12 (E : ev_E) : List (Option (ev_I ⊕ Nat)) := [ev_no, ev_no, ev_no, ev_no, ev_oi (ev_push 197 (ev_int 0)), ev_os 2, ev_no, ev_no, ev_no, ev_no, ev_no, ev_no, ev_no, ev_no, ev_no, ev_no]
/-- 92: TextShellModel.put(III)Z -/
noncomputable def ev_m92 (E : ev_E) : Nat → Option (ev_I ⊕ Nat) := ev_code [ev_r92_0 E, ev_r92_1 E, ev_r92_2 E, ev_r92_3 E, ev_r92_4 E, ev_r92_5 E, ev_r92_6 E, [], ev_r92_8 E, ev_r92_9 E, ev_r92_10 E, ev_r92_11 E, ev_r92_12 E]
noncomputable def ev_r93_0 (E : ev_E) : List (Option (ev_I ⊕ Nat)) := [ev_oi (ev_aload 1 0), ev_oi (ev_aload 2 0), ev_oi (ev_iload 3 1), ev_oi (ev_i2l 4), ev_oi (ev_call 7 84 2 0 0 4 26 (ev_recv 13) E), ev_no, ev_no, ev_oi (ev_if 1 10 14), ev_no, ev_no, ev_oi (ev_push 11 (ev_int 1)), ev_oi (ev_goto 15), ev_no, ev_no, ev_oi (ev_push 15 (ev_int 0)), ev_oi (ev_push 16 (ev_int 0))]
noncomputable def ev_r93_1 (E : ev_E) : List (Option (ev_I ⊕ Nat)) := [ev_oi (ev_call 19 81 3 0 0 4 26 (ev_recv 13) E), ev_no, ev_no, ev_oi (ev_if 0 22 24), ev_no, ev_no, ev_oi (ev_push 23 (ev_int 0)), ev_os 1, ev_oi (ev_aload 25 0), ev_oi (ev_iload 26 1), ev_oi (ev_call 29 99 2 1 0 4 26 (ev_recv 13) E), ev_no, ev_no, ev_oi (ev_astore 30 2), ev_oi (ev_aload 31 0), ev_oi (ev_push 32 (ev_int 0))]
noncomputable def ev_r93_2 (E : ev_E) : List (Option (ev_I ⊕ Nat)) := [ev_oi (ev_put 35 13 95 1), ev_no, ev_no, ev_oi (ev_aload 36 0), ev_oi (ev_aload 37 0), ev_oi (ev_aload 38 2), ev_oi (ev_call 41 94 2 3 26 4 26 (ev_recv 13) E), ev_no, ev_no, ev_oi (ev_put 44 13 94 1), ev_no, ev_no, ev_oi (ev_aload 45 0), ev_oi (ev_aload 46 0), ev_oi (ev_get 49 13 94), ev_no]
noncomputable def ev_r93_3 (E : ev_E) : List (Option (ev_I ⊕ Nat)) := [ev_no, ev_oi (ev_if 0 52 59), ev_no, ev_no, ev_oi (ev_aload 53 0), ev_oi (ev_get 56 13 10), ev_no, ev_no, ev_oi (ev_goto 60), ev_no, ev_no, ev_no, ev_oi (ev_put 63 13 93 5), ev_no, ev_no, ev_oi (ev_aload 64 0)]
noncomputable def ev_r93_4 (E : ev_E) : List (Option (ev_I ⊕ Nat)) := [ev_oi (ev_aload 65 0), ev_oi (ev_get 68 13 9), ev_no, ev_no, ev_oi (ev_put 71 13 97 0), ev_no, ev_no, ev_oi (ev_aload 72 0), ev_oi (ev_get 75 13 4), ev_no, ev_no, ev_os 1, ev_no, ev_no, ev_no, ev_no]
/-- 93: TextShellModel.read(I)I -/
noncomputable def ev_m93 (E : ev_E) : Nat → Option (ev_I ⊕ Nat) := ev_code [ev_r93_0 E, ev_r93_1 E, ev_r93_2 E, ev_r93_3 E, ev_r93_4 E]
noncomputable def ev_r94_0 (E : ev_E) : List (Option (ev_I ⊕ Nat)) := [ev_oi (ev_aload 1 0), ev_oi (ev_push 2 (ev_int 0)), ev_oi (ev_put 5 13 4 0), ev_no, ev_no, ev_oi (ev_aload 6 0), ev_oi (ev_get 9 13 6), ev_no, ev_no, ev_oi (ev_push 10 (ev_int 0)), ev_oi (ev_put 13 14 1 0), ev_no, ev_no, ev_oi (ev_aload 14 0), ev_oi (ev_push 15 ev_null), ev_oi (ev_put 18 13 10 5)]
noncomputable def ev_r94_1 (E : ev_E) : List (Option (ev_I ⊕ Nat)) := [ev_no, ev_no, ev_oi (ev_aload 19 1), ev_oi (ev_call 22 87 1 0 0 3 26 ev_rc1 E), ev_no, ev_no, ev_oi (ev_if 0 25 33), ev_no, ev_no, ev_oi (ev_aload 26 1), ev_oi (ev_alen 27), ev_oi (ev_push 30 (ev_int 16384)), ev_no, ev_no, ev_oi (ev_icmp 5 33 40), ev_no]
noncomputable def ev_r94_2 (E : ev_E) : List (Option (ev_I ⊕ Nat)) := [ev_no, ev_no, ev_no, ev_no, ev_no, ev_no, ev_no, ev_no, ev_oi (ev_aload 41 0), ev_oi (ev_aload 42 0), ev_oi (ev_aload 43 1), ev_oi (ev_push 44 (ev_int 0)), ev_oi (ev_push 45 (ev_int 0)), ev_oi (ev_push 46 ev_null), ev_oi (ev_call 49 98 5 3 26 3 26 (ev_recv 13) E), ev_no]
noncomputable def ev_r94_3 (E : ev_E) : List (Option (ev_I ⊕ Nat)) := [ev_no, ev_oi (ev_put 52 13 10 5), ev_no, ev_no, ev_oi (ev_goto 66), ev_no, ev_no, ev_no, ev_no, ev_no, ev_no, ev_no, ev_no, ev_no, ev_no, ev_no]
noncomputable def ev_r94_4 (E : ev_E) : List (Option (ev_I ⊕ Nat)) := [ev_no, ev_no, ev_oi (ev_aload 67 0), ev_oi (ev_get 70 13 4), ev_no, ev_no, ev_oi (ev_if 1 73 77), ev_no, ev_no, ev_oi (ev_push 74 (ev_int 1)), ev_oi (ev_goto 78), ev_no, ev_no, ev_no, ev_os 2, ev_no]
/-- 94: TextShellModel.reads([B)Z -/
noncomputable def ev_m94 (E : ev_E) : Nat → Option (ev_I ⊕ Nat) := ev_code [ev_r94_0 E, ev_r94_1 E, ev_r94_2 E, ev_r94_3 E, ev_r94_4 E]
noncomputable def ev_r95_0 (E : ev_E) : List (Option (ev_I ⊕ Nat)) := [ev_oi (ev_aload 1 0), ev_oi (ev_push 2 (ev_int 0)), ev_oi (ev_put 5 13 91 0), ev_no, ev_no, ev_oi (ev_aload 6 0), ev_oi (ev_call 9 77 1 6 30 6 30 (ev_recv 13) E), ev_no, ev_no, ev_os 0, ev_no, ev_no, ev_no, ev_no, ev_no, ev_no]
/-- 95: TextShellModel.reset()V -/
noncomputable def ev_m95 (E : ev_E) : Nat → Option (ev_I ⊕ Nat) := ev_code [ev_r95_0 E]
noncomputable def ev_r96_0 (E : ev_E) : List (Option (ev_I ⊕ Nat)) := [ev_oi (ev_aload 1 0), ev_oi (ev_get 4 13 8), ev_no, ev_no, ev_oi (ev_push 7 (.inr (.inl (16, 16)))), ev_no, ev_no, ev_oi (ev_ladd 8), ev_oi (ev_iload 9 1), ev_oi (ev_i2l 10), ev_oi (ev_ladd 11), ev_oi (ev_push 14 (.inr (.inl (40000, 40000)))), ev_no, ev_no, ev_oi (ev_lcmp 15), ev_oi (ev_if 5 18 26)]
noncomputable def ev_r96_1 (E : ev_E) : List (Option (ev_I ⊕ Nat)) := [ev_no, ev_no, ev_no, ev_no, ev_no, ev_no, ev_no, ev_no, ev_no, ev_no, ev_oi (ev_aload 27 0), ev_oi (ev_dup 28), ev_oi (ev_get 31 13 8), ev_no, ev_no, ev_oi (ev_push 33 (ev_int 16))]
noncomputable def ev_r96_2 (E : ev_E) : List (Option (ev_I ⊕ Nat)) := [ev_no, ev_oi (ev_iload 34 1), ev_oi (ev_bin ev_add 35), ev_oi (ev_i2l 36), ev_oi (ev_ladd 37), ev_oi (ev_put 40 13 8 4), ev_no, ev_no, ev_os 0, ev_no, ev_no, ev_no, ev_no, ev_no, ev_no, ev_no]
/-- 96: TextShellModel.room(I)V -/
noncomputable def ev_m96 (E : ev_E) : Nat → Option (ev_I ⊕ Nat) := ev_code [ev_r96_0 E, ev_r96_1 E, ev_r96_2 E]
noncomputable def ev_r97_0 (E : ev_E) : List (Option (ev_I ⊕ Nat)) := [ev_oi (ev_aload 1 0), ev_oi (ev_aload 2 0), ev_oi (ev_get 5 13 94), ev_no, ev_no, ev_oi (ev_if 1 8 12), ev_no, ev_no, ev_oi (ev_push 9 (ev_int 1)), ev_oi (ev_goto 13), ev_no, ev_no, ev_no, ev_oi (ev_aload 14 0), ev_oi (ev_get 17 13 94), ev_no]
noncomputable def ev_r97_1 (E : ev_E) : List (Option (ev_I ⊕ Nat)) := [ev_no, ev_oi (ev_if 0 20 35), ev_no, ev_no, ev_no, ev_no, ev_no, ev_no, ev_no, ev_no, ev_no, ev_no, ev_no, ev_no, ev_no, ev_no]
noncomputable def ev_r97_2 (E : ev_E) : List (Option (ev_I ⊕ Nat)) := [ev_no, ev_no, ev_no, ev_oi (ev_push 36 (ev_int 0)), ev_oi (ev_call 39 81 3 0 0 0 0 (ev_recv 13) E), ev_no, ev_no, ev_oi (ev_if 0 42 44), ev_no, ev_no, ev_oi (ev_push 43 (ev_int 0)), ev_os 1, ev_no, ev_no, ev_no, ev_no]
/-- 97: TextShellModel.run(I)I -/
noncomputable def ev_m97 (E : ev_E) : Nat → Option (ev_I ⊕ Nat) := ev_code [ev_r97_0 E, ev_r97_1 E, ev_r97_2 E]
noncomputable def ev_r98_0 (E : ev_E) : List (Option (ev_I ⊕ Nat)) := [ev_oi (ev_aload 1 0), ev_oi (ev_aload 2 1), ev_oi (ev_alen 3), ev_oi (ev_call 6 96 2 0 0 3 26 (ev_recv 13) E), ev_no, ev_no, ev_oi (ev_aload 7 1), ev_oi (ev_astore 9 5), ev_no, ev_oi (ev_aload 10 1), ev_oi (ev_alen 11), ev_oi (ev_if 0 14 25), ev_no, ev_no, ev_no, ev_no]
noncomputable def ev_r98_1 (E : ev_E) : List (Option (ev_I ⊕ Nat)) := [ev_no, ev_no, ev_no, ev_no, ev_no, ev_no, ev_no, ev_no, ev_no, ev_oi (ev_aload 26 1), ev_oi (ev_alen 27), ev_oi (ev_push 28 (ev_int 1)), ev_oi (ev_bin ev_add 29), ev_oi (ev_newa 31 11 0 3 26), ev_no, ev_oi (ev_astore 33 5)]
noncomputable def ev_r98_2 (E : ev_E) : List (Option (ev_I ⊕ Nat)) := [ev_no, ev_oi (ev_push 34 (ev_int 0)), ev_oi (ev_istore 36 6), ev_no, ev_oi (ev_iload 38 6), ev_no, ev_oi (ev_aload 39 1), ev_oi (ev_alen 40), ev_oi (ev_icmp 3 43 58), ev_no, ev_no, ev_no, ev_no, ev_no, ev_no, ev_no]
noncomputable def ev_r98_3 (E : ev_E) : List (Option (ev_I ⊕ Nat)) := [ev_no, ev_no, ev_no, ev_no, ev_no, ev_no, ev_no, ev_no, ev_no, ev_no, ev_oi (ev_aload 60 5), ev_no, ev_oi (ev_aload 61 1), ev_oi (ev_alen 62), ev_oi (ev_push 64 (ev_int 10)), ev_no]
noncomputable def ev_r98_4 (E : ev_E) : List (Option (ev_I ⊕ Nat)) := [ev_oi (ev_ast 65 11 2), ev_oi (ev_new 68 19 17 3 26 ev_f19), ev_no, ev_no, ev_oi (ev_dup 69), ev_oi (ev_aload 70 0), ev_oi (ev_aload 72 5), ev_no, ev_oi (ev_aload 74 5), ev_no, ev_oi (ev_alen 75), ev_oi (ev_iload 76 2), ev_oi (ev_iload 77 3), ev_oi (ev_aload 79 4), ev_no, ev_oi (ev_call 82 106 7 1 8 3 26 (ev_recv 19) E)]
noncomputable def ev_r98_5 (E : ev_E) : List (Option (ev_I ⊕ Nat)) := [ev_no, ev_no, ev_oi (ev_astore 84 6), ev_no, ev_oi (ev_aload 86 6), ev_no, ev_oi (ev_iload 87 3), ev_oi (ev_if 1 90 94), ev_no, ev_no, ev_oi (ev_push 91 (ev_int 1)), ev_oi (ev_goto 95), ev_no, ev_no, ev_no, ev_oi (ev_put 98 19 14 1)]
noncomputable def ev_r98_6 (E : ev_E) : List (Option (ev_I ⊕ Nat)) := [ev_no, ev_no, ev_oi (ev_aload 100 6), ev_no, ev_oi (ev_call 103 113 1 0 0 3 26 (ev_recv 19) E), ev_no, ev_no, ev_oi (ev_aload 105 6), ev_no, ev_oi (ev_call 108 114 1 0 0 3 26 (ev_recv 19) E), ev_no, ev_no, ev_oi (ev_astore 110 7), ev_no, ev_oi (ev_aload 112 6), ev_no]
noncomputable def ev_r98_7 (E : ev_E) : List (Option (ev_I ⊕ Nat)) := [ev_oi (ev_get 115 19 3), ev_no, ev_no, ev_oi (ev_if 1 118 126), ev_no, ev_no, ev_oi (ev_aload 120 6), ev_no, ev_oi (ev_get 123 19 9), ev_no, ev_no, ev_oi (ev_ifnull 126 153), ev_no, ev_no, ev_no, ev_no]
noncomputable def ev_r98_9 (E : ev_E) : List (Option (ev_I ⊕ Nat)) := [ev_no, ev_no, ev_no, ev_no, ev_no, ev_no, ev_no, ev_no, ev_no, ev_oi (ev_aload 154 0), ev_oi (ev_aload 156 6), ev_no, ev_oi (ev_get 159 19 13), ev_no, ev_no, ev_oi (ev_put 162 13 9 0)]
noncomputable def ev_r98_10 (E : ev_E) : List (Option (ev_I ⊕ Nat)) := [ev_no, ev_no, ev_oi (ev_aload 164 7), ev_no, ev_os 5, ev_no, ev_no, ev_no, ev_no, ev_no, ev_no, ev_no, ev_no, ev_no, ev_no, ev_no]
/-- 98: TextShellModel.scriptOf([BIILTextShellModel$Input;)LTextShellModel$AndOr; -/
noncomputable def ev_m98 (E : ev_E) : Nat → Option (ev_I ⊕ Nat) := ev_code [ev_r98_0 E, ev_r98_1 E, ev_r98_2 E, ev_r98_3 E, ev_r98_4 E, ev_r98_5 E, ev_r98_6 E, ev_r98_7 E, [], ev_r98_9 E, ev_r98_10 E]
noncomputable def ev_r99_0 (E : ev_E) : List (Option (ev_I ⊕ Nat)) := [ev_oi (ev_aload 1 0), ev_oi (ev_get 4 13 92), ev_no, ev_no, ev_oi (ev_get 7 14 0), ev_no, ev_no, ev_oi (ev_push 8 (ev_int 0)), ev_oi (ev_iload 9 1), ev_oi (ev_call 12 90 3 1 0 1 0 ev_rc1 E), ev_no, ev_no, ev_oi (ev_astore 13 2), ev_oi (ev_aload 14 0), ev_oi (ev_get 17 13 92), ev_no]
noncomputable def ev_r99_1 (E : ev_E) : List (Option (ev_I ⊕ Nat)) := [ev_no, ev_oi (ev_push 18 (ev_int 0)), ev_oi (ev_put 21 14 1 0), ev_no, ev_no, ev_oi (ev_aload 22 2), ev_os 5, ev_no, ev_no, ev_no, ev_no, ev_no, ev_no, ev_no, ev_no, ev_no]
/-- 99: TextShellModel.taken(I)[B -/
noncomputable def ev_m99 (E : ev_E) : Nat → Option (ev_I ⊕ Nat) := ev_code [ev_r99_0 E, ev_r99_1 E]
noncomputable def ev_r100_0 (E : ev_E) : List (Option (ev_I ⊕ Nat)) := [ev_oi (ev_aload 1 0), ev_oi (ev_get 4 13 91), ev_no, ev_no, ev_os 1, ev_no, ev_no, ev_no, ev_no, ev_no, ev_no, ev_no, ev_no, ev_no, ev_no, ev_no]
/-- 100: TextShellModel.thrown()I -/
noncomputable def ev_m100 (E : ev_E) : Nat → Option (ev_I ⊕ Nat) := ev_code [ev_r100_0 E]
noncomputable def ev_r101_0 (E : ev_E) : List (Option (ev_I ⊕ Nat)) := [ev_oi (ev_aload 1 0), ev_oi (ev_objinit 4), ev_no, ev_no, ev_oi (ev_aload 5 0), ev_oi (ev_push 7 (ev_int 16)), ev_no, ev_oi (ev_newa 9 11 0 1 16), ev_no, ev_oi (ev_put 12 14 0 5), ev_no, ev_no, ev_os 0, ev_no, ev_no, ev_no]
/-- 101: TextShellModel$Bytes.<init>()V -/
noncomputable def ev_m101 (E : ev_E) : Nat → Option (ev_I ⊕ Nat) := ev_code [ev_r101_0 E]
noncomputable def ev_r102_0 (E : ev_E) : List (Option (ev_I ⊕ Nat)) := [ev_oi (ev_aload 1 0), ev_oi (ev_get 4 14 1), ev_no, ev_no, ev_oi (ev_aload 5 0), ev_oi (ev_get 8 14 0), ev_no, ev_no, ev_oi (ev_alen 9), ev_oi (ev_icmp 1 12 51), ev_no, ev_no, ev_oi (ev_push 13 (ev_int 2)), ev_oi (ev_aload 14 0), ev_oi (ev_get 17 14 1), ev_no]
noncomputable def ev_r102_1 (E : ev_E) : List (Option (ev_I ⊕ Nat)) := [ev_no, ev_oi (ev_bin ev_mul 18), ev_oi (ev_newa 20 11 0 1 32), ev_no, ev_oi (ev_astore 21 2), ev_oi (ev_push 22 (ev_int 0)), ev_oi (ev_istore 23 3), ev_oi (ev_iload 24 3), ev_oi (ev_aload 25 0), ev_oi (ev_get 28 14 1), ev_no, ev_no, ev_oi (ev_icmp 3 31 46), ev_no, ev_no, ev_oi (ev_aload 32 2)]
noncomputable def ev_r102_2 (E : ev_E) : List (Option (ev_I ⊕ Nat)) := [ev_oi (ev_iload 33 3), ev_oi (ev_aload 34 0), ev_oi (ev_get 37 14 0), ev_no, ev_no, ev_oi (ev_iload 38 3), ev_oi (ev_ald 39 11), ev_oi (ev_ast 40 11 2), ev_oi (ev_iinc 43 3 1), ev_no, ev_no, ev_oi (ev_goto 23), ev_no, ev_no, ev_oi (ev_aload 47 0), ev_oi (ev_aload 48 2)]
noncomputable def ev_r102_3 (E : ev_E) : List (Option (ev_I ⊕ Nat)) := [ev_oi (ev_put 51 14 0 5), ev_no, ev_no, ev_oi (ev_aload 52 0), ev_oi (ev_get 55 14 0), ev_no, ev_no, ev_oi (ev_aload 56 0), ev_oi (ev_get 59 14 1), ev_no, ev_no, ev_oi (ev_iload 60 1), ev_oi (ev_un ev_b8 (-128) 127 61), ev_oi (ev_ast 62 11 2), ev_oi (ev_aload 63 0), ev_oi (ev_dup 64)]
noncomputable def ev_r102_4 (E : ev_E) : List (Option (ev_I ⊕ Nat)) := [ev_oi (ev_get 67 14 1), ev_no, ev_no, ev_oi (ev_push 68 (ev_int 1)), ev_oi (ev_bin ev_add 69), ev_oi (ev_put 72 14 1 0), ev_no, ev_no, ev_os 0, ev_no, ev_no, ev_no, ev_no, ev_no, ev_no, ev_no]
/-- 102: TextShellModel$Bytes.add(I)V -/
noncomputable def ev_m102 (E : ev_E) : Nat → Option (ev_I ⊕ Nat) := ev_code [ev_r102_0 E, ev_r102_1 E, ev_r102_2 E, ev_r102_3 E, ev_r102_4 E]
noncomputable def ev_r103_0 (E : ev_E) : List (Option (ev_I ⊕ Nat)) := [ev_oi (ev_aload 1 0), ev_oi (ev_objinit 4), ev_no, ev_no, ev_oi (ev_aload 5 0), ev_oi (ev_push 6 (ev_int 1)), ev_oi (ev_put 9 20 3 0), ev_no, ev_no, ev_os 0, ev_no, ev_no, ev_no, ev_no, ev_no, ev_no]
/-- 103: TextShellModel$Input.<init>()V -/
noncomputable def ev_m103 (E : ev_E) : Nat → Option (ev_I ⊕ Nat) := ev_code [ev_r103_0 E]
noncomputable def ev_r104_0 (E : ev_E) : List (Option (ev_I ⊕ Nat)) := [ev_oi (ev_aload 1 0), ev_oi (ev_objinit 4), ev_no, ev_no, ev_oi (ev_aload 5 0), ev_oi (ev_aload 6 1), ev_oi (ev_put 9 15 0 5), ev_no, ev_no, ev_oi (ev_aload 10 0), ev_oi (ev_iload 11 2), ev_oi (ev_put 14 15 4 1), ev_no, ev_no, ev_oi (ev_aload 15 0), ev_oi (ev_iload 16 2)]
noncomputable def ev_r104_1 (E : ev_E) : List (Option (ev_I ⊕ Nat)) := [ev_oi (ev_if 0 19 23), ev_no, ev_no, ev_oi (ev_push 20 ev_null), ev_oi (ev_goto 30), ev_no, ev_no, ev_no, ev_no, ev_no, ev_no, ev_no, ev_no, ev_no, ev_oi (ev_put 33 15 6 5), ev_no]
noncomputable def ev_r104_2 (E : ev_E) : List (Option (ev_I ⊕ Nat)) := [ev_no, ev_os 0, ev_no, ev_no, ev_no, ev_no, ev_no, ev_no, ev_no, ev_no, ev_no, ev_no, ev_no, ev_no, ev_no, ev_no]
/-- 104: TextShellModel$Node.<init>([BZ)V -/
noncomputable def ev_m104 (E : ev_E) : Nat → Option (ev_I ⊕ Nat) := ev_code [ev_r104_0 E, ev_r104_1 E, ev_r104_2 E]
noncomputable def ev_r105_0 (E : ev_E) : List (Option (ev_I ⊕ Nat)) := [ev_oi (ev_aload 1 0), ev_oi (ev_objinit 4), ev_no, ev_no, ev_os 0, ev_no, ev_no, ev_no, ev_no, ev_no, ev_no, ev_no, ev_no, ev_no, ev_no, ev_no]
/-- 105: TextShellModel$Open.<init>()V -/
noncomputable def ev_m105 (E : ev_E) : Nat → Option (ev_I ⊕ Nat) := ev_code [ev_r105_0 E]
noncomputable def ev_r106_0 (E : ev_E) : List (Option (ev_I ⊕ Nat)) := [ev_oi (ev_aload 1 0), ev_oi (ev_objinit 4), ev_no, ev_no, ev_oi (ev_aload 5 0), ev_oi (ev_aload 6 1), ev_oi (ev_put 9 19 0 5), ev_no, ev_no, ev_oi (ev_aload 10 0), ev_oi (ev_iload 12 4), ev_no, ev_oi (ev_put 15 19 11 0), ev_no, ev_no, ev_oi (ev_aload 16 0)]
noncomputable def ev_r106_1 (E : ev_E) : List (Option (ev_I ⊕ Nat)) := [ev_oi (ev_iload 18 5), ev_no, ev_oi (ev_put 21 19 12 0), ev_no, ev_no, ev_oi (ev_aload 22 0), ev_oi (ev_new 25 20 8 1 8 ev_f20), ev_no, ev_no, ev_oi (ev_dup 26), ev_oi (ev_call 29 103 1 0 0 1 8 (ev_recv 20) E), ev_no, ev_no, ev_oi (ev_put 32 19 1 5), ev_no, ev_no]
noncomputable def ev_r106_2 (E : ev_E) : List (Option (ev_I ⊕ Nat)) := [ev_oi (ev_aload 33 0), ev_oi (ev_get 36 19 1), ev_no, ev_no, ev_oi (ev_aload 37 2), ev_oi (ev_put 40 20 0 5), ev_no, ev_no, ev_oi (ev_aload 41 0), ev_oi (ev_get 44 19 1), ev_no, ev_no, ev_oi (ev_iload 45 3), ev_oi (ev_put 48 20 1 0), ev_no, ev_no]
noncomputable def ev_r106_3 (E : ev_E) : List (Option (ev_I ⊕ Nat)) := [ev_oi (ev_aload 49 0), ev_oi (ev_get 52 19 1), ev_no, ev_no, ev_oi (ev_aload 54 6), ev_no, ev_oi (ev_put 57 20 7 5), ev_no, ev_no, ev_oi (ev_aload 58 0), ev_oi (ev_aload 59 0), ev_oi (ev_get 62 19 1), ev_no, ev_no, ev_oi (ev_put 65 19 2 5), ev_no]
noncomputable def ev_r106_4 (E : ev_E) : List (Option (ev_I ⊕ Nat)) := [ev_no, ev_os 0, ev_no, ev_no, ev_no, ev_no, ev_no, ev_no, ev_no, ev_no, ev_no, ev_no, ev_no, ev_no, ev_no, ev_no]
/-- 106: TextShellModel$Reader.<init>(LTextShellModel;[BIIILTextShellModel$Input;)V -/
noncomputable def ev_m106 (E : ev_E) : Nat → Option (ev_I ⊕ Nat) := ev_code [ev_r106_0 E, ev_r106_1 E, ev_r106_2 E, ev_r106_3 E, ev_r106_4 E]
noncomputable def ev_r107_0 (E : ev_E) : List (Option (ev_I ⊕ Nat)) := [ev_oi (ev_aload 1 0), ev_oi (ev_get 4 19 3), ev_no, ev_no, ev_oi (ev_push 5 (ev_int 1)), ev_oi (ev_icmp 1 8 12), ev_no, ev_no, ev_oi (ev_aload 9 0), ev_oi (ev_call 12 109 1 0 0 0 0 (ev_recv 19) E), ev_no, ev_no, ev_oi (ev_aload 13 0), ev_oi (ev_call 16 113 1 0 0 0 0 (ev_recv 19) E), ev_no, ev_no]
noncomputable def ev_r107_1 (E : ev_E) : List (Option (ev_I ⊕ Nat)) := [ev_os 0, ev_no, ev_no, ev_no, ev_no, ev_no, ev_no, ev_no, ev_no, ev_no, ev_no, ev_no, ev_no, ev_no, ev_no, ev_no]
/-- 107: TextShellModel$Reader.advance()V -/
noncomputable def ev_m107 (E : ev_E) : Nat → Option (ev_I ⊕ Nat) := ev_code [ev_r107_0 E, ev_r107_1 E]
noncomputable def ev_r108_0 (E : ev_E) : List (Option (ev_I ⊕ Nat)) := [ev_oi (ev_push 1 (ev_int 1)), ev_oi (ev_istore 2 3), ev_oi (ev_iload 3 3), ev_oi (ev_if 0 6 208), ev_no, ev_no, ev_oi (ev_aload 7 0), ev_oi (ev_get 10 19 3), ev_no, ev_no, ev_oi (ev_push 12 (ev_int 10)), ev_no, ev_oi (ev_icmp 1 15 208), ev_no, ev_no, ev_no]
noncomputable def ev_r108_13 (E : ev_E) : List (Option (ev_I ⊕ Nat)) := [ev_os 0, ev_no, ev_no, ev_no, ev_no, ev_no, ev_no, ev_no, ev_no, ev_no, ev_no, ev_no, ev_no, ev_no, ev_no, ev_no]
/-- 108: TextShellModel$Reader.aliases(ZZ)V -/
noncomputable def ev_m108 (E : ev_E) : Nat → Option (ev_I ⊕ Nat) := ev_code [ev_r108_0 E, [], [], [], [], [], [], [], [], [], [], [], [], ev_r108_13 E]
noncomputable def ev_r109_0 (E : ev_E) : List (Option (ev_I ⊕ Nat)) := [ev_oi (ev_aload 1 0), ev_oi (ev_get 4 19 9), ev_no, ev_no, ev_oi (ev_ifnull 7 28), ev_no, ev_no, ev_no, ev_no, ev_no, ev_no, ev_no, ev_no, ev_no, ev_no, ev_no]
noncomputable def ev_r109_1 (E : ev_E) : List (Option (ev_I ⊕ Nat)) := [ev_no, ev_no, ev_no, ev_no, ev_no, ev_no, ev_no, ev_no, ev_no, ev_no, ev_no, ev_no, ev_oi (ev_aload 29 0), ev_oi (ev_push 30 ev_null), ev_oi (ev_put 33 19 10 5), ev_no]
noncomputable def ev_r109_2 (E : ev_E) : List (Option (ev_I ⊕ Nat)) := [ev_no, ev_os 0, ev_no, ev_no, ev_no, ev_no, ev_no, ev_no, ev_no, ev_no, ev_no, ev_no, ev_no, ev_no, ev_no, ev_no]
/-- 109: TextShellModel$Reader.bodies()V -/
noncomputable def ev_m109 (E : ev_E) : Nat → Option (ev_I ⊕ Nat) := ev_code [ev_r109_0 E, ev_r109_1 E, ev_r109_2 E]
noncomputable def ev_r110_0 (E : ev_E) : List (Option (ev_I ⊕ Nat)) := [ev_oi (ev_iload 1 1), ev_oi (ev_push 3 (ev_int 9)), ev_no, ev_oi (ev_icmp 0 6 12), ev_no, ev_no, ev_oi (ev_iload 7 1), ev_oi (ev_push 9 (ev_int 32)), ev_no, ev_oi (ev_icmp 1 12 16), ev_no, ev_no, ev_no, ev_no, ev_no, ev_no]
noncomputable def ev_r110_1 (E : ev_E) : List (Option (ev_I ⊕ Nat)) := [ev_oi (ev_push 17 (ev_int 0)), ev_os 2, ev_no, ev_no, ev_no, ev_no, ev_no, ev_no, ev_no, ev_no, ev_no, ev_no, ev_no, ev_no, ev_no, ev_no]
/-- 110: TextShellModel$Reader.isBlank(I)Z -/
noncomputable def ev_m110 (E : ev_E) : Nat → Option (ev_I ⊕ Nat) := ev_code [ev_r110_0 E, ev_r110_1 E]
noncomputable def ev_r111_0 (E : ev_E) : List (Option (ev_I ⊕ Nat)) := [ev_oi (ev_aload 1 0), ev_oi (ev_get 4 19 1), ev_no, ev_no, ev_oi (ev_get 7 20 4), ev_no, ev_no, ev_oi (ev_ifnonnull 10 20), ev_no, ev_no, ev_oi (ev_aload 11 0), ev_oi (ev_get 14 19 1), ev_no, ev_no, ev_oi (ev_get 17 20 3), ev_no]
noncomputable def ev_r111_1 (E : ev_E) : List (Option (ev_I ⊕ Nat)) := [ev_no, ev_oi (ev_goto 62), ev_no, ev_no, ev_no, ev_no, ev_no, ev_no, ev_no, ev_no, ev_no, ev_no, ev_no, ev_no, ev_no, ev_no]
noncomputable def ev_r111_3 (E : ev_E) : List (Option (ev_I ⊕ Nat)) := [ev_no, ev_no, ev_no, ev_no, ev_no, ev_no, ev_no, ev_no, ev_no, ev_no, ev_no, ev_no, ev_no, ev_no, ev_os 1, ev_no]
/-- 111: TextShellModel$Reader.line()I -/
noncomputable def ev_m111 (E : ev_E) : Nat → Option (ev_I ⊕ Nat) := ev_code [ev_r111_0 E, ev_r111_1 E, [], ev_r111_3 E]
noncomputable def ev_r112_0 (E : ev_E) : List (Option (ev_I ⊕ Nat)) := [ev_oi (ev_aload 1 0), ev_oi (ev_get 4 19 1), ev_no, ev_no, ev_oi (ev_get 7 20 2), ev_no, ev_no, ev_oi (ev_push 8 (ev_int 1)), ev_oi (ev_bin ev_add 9), ev_oi (ev_aload 10 0), ev_oi (ev_get 13 19 1), ev_no, ev_no, ev_oi (ev_get 16 20 1), ev_no, ev_no]
noncomputable def ev_r112_1 (E : ev_E) : List (Option (ev_I ⊕ Nat)) := [ev_oi (ev_icmp 3 19 90), ev_no, ev_no, ev_no, ev_no, ev_no, ev_no, ev_no, ev_no, ev_no, ev_no, ev_no, ev_no, ev_no, ev_no, ev_no]
noncomputable def ev_r112_5 (E : ev_E) : List (Option (ev_I ⊕ Nat)) := [ev_no, ev_no, ev_no, ev_no, ev_no, ev_no, ev_no, ev_no, ev_no, ev_no, ev_oi (ev_aload 91 0), ev_oi (ev_get 94 19 1), ev_no, ev_no, ev_oi (ev_get 97 20 2), ev_no]
noncomputable def ev_r112_6 (E : ev_E) : List (Option (ev_I ⊕ Nat)) := [ev_no, ev_oi (ev_aload 98 0), ev_oi (ev_get 101 19 1), ev_no, ev_no, ev_oi (ev_get 104 20 1), ev_no, ev_no, ev_oi (ev_icmp 3 107 125), ev_no, ev_no, ev_oi (ev_aload 108 0), ev_oi (ev_get 111 19 1), ev_no, ev_no, ev_oi (ev_get 114 20 0)]
noncomputable def ev_r112_7 (E : ev_E) : List (Option (ev_I ⊕ Nat)) := [ev_no, ev_no, ev_oi (ev_aload 115 0), ev_oi (ev_get 118 19 1), ev_no, ev_no, ev_oi (ev_get 121 20 2), ev_no, ev_no, ev_oi (ev_ald 122 11), ev_oi (ev_goto 126), ev_no, ev_no, ev_oi (ev_push 126 (ev_int (-1))), ev_os 1, ev_no]
/-- 112: TextShellModel$Reader.look()I -/
noncomputable def ev_m112 (E : ev_E) : Nat → Option (ev_I ⊕ Nat) := ev_code [ev_r112_0 E, ev_r112_1 E, [], [], [], ev_r112_5 E, ev_r112_6 E, ev_r112_7 E]
noncomputable def ev_r113_0 (E : ev_E) : List (Option (ev_I ⊕ Nat)) := [ev_oi (ev_aload 1 0), ev_oi (ev_push 2 (ev_int 0)), ev_oi (ev_put 5 19 8 1), ev_no, ev_no, ev_oi (ev_aload 6 0), ev_oi (ev_call 9 112 1 0 0 0 0 (ev_recv 19) E), ev_no, ev_no, ev_oi (ev_istore 10 1), ev_oi (ev_iload 11 1), ev_oi (ev_if 3 14 89), ev_no, ev_no, ev_oi (ev_aload 15 0), ev_oi (ev_get 18 19 1)]
noncomputable def ev_r113_1 (E : ev_E) : List (Option (ev_I ⊕ Nat)) := [ev_no, ev_no, ev_oi (ev_aload 19 0), ev_oi (ev_get 22 19 2), ev_no, ev_no, ev_oi (ev_acmp true 25 89), ev_no, ev_no, ev_no, ev_no, ev_no, ev_no, ev_no, ev_no, ev_no]
noncomputable def ev_r113_5 (E : ev_E) : List (Option (ev_I ⊕ Nat)) := [ev_no, ev_no, ev_no, ev_no, ev_no, ev_no, ev_no, ev_no, ev_no, ev_oi (ev_iload 90 1), ev_oi (ev_if 2 93 109), ev_no, ev_no, ev_oi (ev_aload 94 0), ev_oi (ev_iload 95 1), ev_oi (ev_call 98 110 2 0 0 0 0 (ev_recv 19) E)]
noncomputable def ev_r113_6 (E : ev_E) : List (Option (ev_I ⊕ Nat)) := [ev_no, ev_no, ev_oi (ev_if 0 101 109), ev_no, ev_no, ev_no, ev_no, ev_no, ev_no, ev_no, ev_no, ev_no, ev_no, ev_oi (ev_iload 110 1), ev_oi (ev_push 112 (ev_int 35)), ev_no]
noncomputable def ev_r113_7 (E : ev_E) : List (Option (ev_I ⊕ Nat)) := [ev_oi (ev_icmp 1 115 163), ev_no, ev_no, ev_no, ev_no, ev_no, ev_no, ev_no, ev_no, ev_no, ev_no, ev_no, ev_no, ev_no, ev_no, ev_no]
noncomputable def ev_r113_10 (E : ev_E) : List (Option (ev_I ⊕ Nat)) := [ev_no, ev_no, ev_no, ev_oi (ev_aload 164 0), ev_oi (ev_aload 165 0), ev_oi (ev_call 168 111 1 0 0 0 0 (ev_recv 19) E), ev_no, ev_no, ev_oi (ev_put 171 19 4 0), ev_no, ev_no, ev_oi (ev_aload 172 0), ev_oi (ev_aload 173 0), ev_oi (ev_get 176 19 1), ev_no, ev_no]
noncomputable def ev_r113_11 (E : ev_E) : List (Option (ev_I ⊕ Nat)) := [ev_oi (ev_put 179 19 7 5), ev_no, ev_no, ev_oi (ev_aload 180 0), ev_oi (ev_call 183 112 1 0 0 0 0 (ev_recv 19) E), ev_no, ev_no, ev_oi (ev_istore 184 1), ev_oi (ev_iload 185 1), ev_oi (ev_if 3 188 196), ev_no, ev_no, ev_oi (ev_aload 189 0), ev_oi (ev_push 190 (ev_int 0)), ev_oi (ev_put 193 19 3 0), ev_no]
noncomputable def ev_r113_12 (E : ev_E) : List (Option (ev_I ⊕ Nat)) := [ev_no, ev_oi (ev_goto 323), ev_no, ev_no, ev_oi (ev_iload 197 1), ev_oi (ev_push 199 (ev_int 10)), ev_no, ev_oi (ev_icmp 1 202 210), ev_no, ev_no, ev_oi (ev_aload 203 0), ev_oi (ev_push 204 (ev_int 1)), ev_oi (ev_call 207 116 2 0 0 0 0 (ev_recv 19) E), ev_no, ev_no, ev_oi (ev_goto 323)]
noncomputable def ev_r113_20 (E : ev_E) : List (Option (ev_I ⊕ Nat)) := [ev_no, ev_no, ev_no, ev_oi (ev_aload 324 0), ev_oi (ev_get 327 19 8), ev_no, ev_no, ev_oi (ev_if 0 330 345), ev_no, ev_no, ev_no, ev_no, ev_no, ev_no, ev_no, ev_no]
noncomputable def ev_r113_21 (E : ev_E) : List (Option (ev_I ⊕ Nat)) := [ev_no, ev_no, ev_no, ev_no, ev_no, ev_no, ev_no, ev_no, ev_no, ev_os 0, ev_no, ev_no, ev_no, ev_no, ev_no, ev_no]
/-- 113: TextShellModel$Reader.next()V -/
noncomputable def ev_m113 (E : ev_E) : Nat → Option (ev_I ⊕ Nat) := ev_code [ev_r113_0 E, ev_r113_1 E, [], [], [], ev_r113_5 E, ev_r113_6 E, ev_r113_7 E, [], [], ev_r113_10 E, ev_r113_11 E, ev_r113_12 E, [], [], [], [], [], [], [], ev_r113_20 E, ev_r113_21 E]
noncomputable def ev_r114_0 (E : ev_E) : List (Option (ev_I ⊕ Nat)) := [ev_oi (ev_aload 1 0), ev_oi (ev_call 4 115 1 0 0 0 0 (ev_recv 19) E), ev_no, ev_no, ev_oi (ev_aload 5 0), ev_oi (ev_get 8 19 3), ev_no, ev_no, ev_oi (ev_if 0 11 20), ev_no, ev_no, ev_no, ev_no, ev_no, ev_no, ev_no]
noncomputable def ev_r114_1 (E : ev_E) : List (Option (ev_I ⊕ Nat)) := [ev_no, ev_no, ev_no, ev_no, ev_oi (ev_push 21 ev_null), ev_os 5, ev_no, ev_no, ev_no, ev_no, ev_no, ev_no, ev_no, ev_no, ev_no, ev_no]
/-- 114: TextShellModel$Reader.script()LTextShellModel$AndOr; -/
noncomputable def ev_m114 (E : ev_E) : Nat → Option (ev_I ⊕ Nat) := ev_code [ev_r114_0 E, ev_r114_1 E]
noncomputable def ev_r115_0 (E : ev_E) : List (Option (ev_I ⊕ Nat)) := [ev_oi (ev_aload 1 0), ev_oi (ev_push 2 (ev_int 1)), ev_oi (ev_push 3 (ev_int 1)), ev_oi (ev_call 6 108 3 0 0 0 0 (ev_recv 19) E), ev_no, ev_no, ev_oi (ev_aload 7 0), ev_oi (ev_get 10 19 3), ev_no, ev_no, ev_oi (ev_push 11 (ev_int 1)), ev_oi (ev_icmp 1 14 27), ev_no, ev_no, ev_oi (ev_aload 15 0), ev_oi (ev_call 18 107 1 0 0 0 0 (ev_recv 19) E)]
noncomputable def ev_r115_1 (E : ev_E) : List (Option (ev_I ⊕ Nat)) := [ev_no, ev_no, ev_oi (ev_aload 19 0), ev_oi (ev_push 20 (ev_int 1)), ev_oi (ev_push 21 (ev_int 1)), ev_oi (ev_call 24 108 3 0 0 0 0 (ev_recv 19) E), ev_no, ev_no, ev_oi (ev_goto 6), ev_no, ev_no, ev_os 0, ev_no, ev_no, ev_no, ev_no]
/-- 115: TextShellModel$Reader.settle()V -/
noncomputable def ev_m115 (E : ev_E) : Nat → Option (ev_I ⊕ Nat) := ev_code [ev_r115_0 E, ev_r115_1 E]
noncomputable def ev_r116_0 (E : ev_E) : List (Option (ev_I ⊕ Nat)) := [ev_oi (ev_aload 1 0), ev_oi (ev_call 4 117 1 0 0 0 0 (ev_recv 19) E), ev_no, ev_no, ev_oi (ev_pop 5), ev_oi (ev_aload 6 0), ev_oi (ev_iload 7 1), ev_oi (ev_put 10 19 3 0), ev_no, ev_no, ev_os 0, ev_no, ev_no, ev_no, ev_no, ev_no]
/-- 116: TextShellModel$Reader.sign(I)V -/
noncomputable def ev_m116 (E : ev_E) : Nat → Option (ev_I ⊕ Nat) := ev_code [ev_r116_0 E]
noncomputable def ev_r117_0 (E : ev_E) : List (Option (ev_I ⊕ Nat)) := [ev_oi (ev_aload 1 0), ev_oi (ev_get 4 19 1), ev_no, ev_no, ev_oi (ev_get 7 20 0), ev_no, ev_no, ev_oi (ev_aload 8 0), ev_oi (ev_get 11 19 1), ev_no, ev_no, ev_oi (ev_get 14 20 2), ev_no, ev_no, ev_oi (ev_ald 15 11), ev_oi (ev_istore 16 1)]
noncomputable def ev_r117_1 (E : ev_E) : List (Option (ev_I ⊕ Nat)) := [ev_oi (ev_aload 17 0), ev_oi (ev_get 20 19 1), ev_no, ev_no, ev_oi (ev_dup 21), ev_oi (ev_get 24 20 2), ev_no, ev_no, ev_oi (ev_push 25 (ev_int 1)), ev_oi (ev_bin ev_add 26), ev_oi (ev_put 29 20 2 0), ev_no, ev_no, ev_oi (ev_iload 30 1), ev_oi (ev_push 32 (ev_int 10)), ev_no]
noncomputable def ev_r117_2 (E : ev_E) : List (Option (ev_I ⊕ Nat)) := [ev_oi (ev_icmp 1 35 48), ev_no, ev_no, ev_oi (ev_aload 36 0), ev_oi (ev_get 39 19 1), ev_no, ev_no, ev_oi (ev_dup 40), ev_oi (ev_get 43 20 3), ev_no, ev_no, ev_oi (ev_push 44 (ev_int 1)), ev_oi (ev_bin ev_add 45), ev_oi (ev_put 48 20 3 0), ev_no, ev_no]
noncomputable def ev_r117_3 (E : ev_E) : List (Option (ev_I ⊕ Nat)) := [ev_oi (ev_aload 49 0), ev_oi (ev_get 52 19 15), ev_no, ev_no, ev_oi (ev_if 5 55 77), ev_no, ev_no, ev_no, ev_no, ev_no, ev_no, ev_no, ev_no, ev_no, ev_no, ev_no]
noncomputable def ev_r117_4 (E : ev_E) : List (Option (ev_I ⊕ Nat)) := [ev_no, ev_no, ev_no, ev_no, ev_no, ev_no, ev_no, ev_no, ev_no, ev_no, ev_no, ev_no, ev_no, ev_oi (ev_iload 78 1), ev_os 1, ev_no]
/-- 117: TextShellModel$Reader.take()I -/
noncomputable def ev_m117 (E : ev_E) : Nat → Option (ev_I ⊕ Nat) := ev_code [ev_r117_0 E, ev_r117_1 E, ev_r117_2 E, ev_r117_3 E, ev_r117_4 E]
noncomputable def ev_r118_0 (E : ev_E) : List (Option (ev_I ⊕ Nat)) := [ev_oi (ev_aload 1 0), ev_oi (ev_objinit 4), ev_no, ev_no, ev_oi (ev_aload 5 0), ev_oi (ev_new 8 16 3 2 515 ev_f16), ev_no, ev_no, ev_oi (ev_dup 9), ev_oi (ev_call 12 130 1 0 0 2 515 (ev_recv 16) E), ev_no, ev_no, ev_oi (ev_put 15 17 0 5), ev_no, ev_no, ev_oi (ev_aload 16 0)]
noncomputable def ev_r118_1 (E : ev_E) : List (Option (ev_I ⊕ Nat)) := [ev_oi (ev_push 19 (ev_int 512)), ev_no, ev_no, ev_oi (ev_newa 22 16 2 2 515), ev_no, ev_no, ev_oi (ev_put 25 17 1 5), ev_no, ev_no, ev_os 0, ev_no, ev_no, ev_no, ev_no, ev_no, ev_no]
/-- 118: TextShellModel$Table.<init>()V -/
noncomputable def ev_m118 (E : ev_E) : Nat → Option (ev_I ⊕ Nat) := ev_code [ev_r118_0 E, ev_r118_1 E]
noncomputable def ev_r119_0 (E : ev_E) : List (Option (ev_I ⊕ Nat)) := [ev_oi (ev_push 1 (ev_int 0)), ev_oi (ev_istore 2 1), ev_oi (ev_push 3 (ev_int 0)), ev_oi (ev_istore 4 2), ev_oi (ev_iload 5 2), ev_oi (ev_aload 6 0), ev_oi (ev_alen 7), ev_oi (ev_icmp 3 10 25), ev_no, ev_no, ev_no, ev_no, ev_no, ev_no, ev_no, ev_no]
noncomputable def ev_r119_1 (E : ev_E) : List (Option (ev_I ⊕ Nat)) := [ev_no, ev_no, ev_no, ev_no, ev_no, ev_no, ev_no, ev_no, ev_no, ev_oi (ev_iload 26 1), ev_oi (ev_iload 27 1), ev_oi (ev_push 29 (ev_int 9)), ev_no, ev_oi (ev_ushr 30), ev_oi (ev_bin ev_xor 31), ev_oi (ev_push 34 (ev_int 511))]
noncomputable def ev_r119_2 (E : ev_E) : List (Option (ev_I ⊕ Nat)) := [ev_no, ev_no, ev_oi (ev_bin ev_and 35), ev_os 1, ev_no, ev_no, ev_no, ev_no, ev_no, ev_no, ev_no, ev_no, ev_no, ev_no, ev_no, ev_no]
/-- 119: TextShellModel$Table.chain([B)I -/
noncomputable def ev_m119 (E : ev_E) : Nat → Option (ev_I ⊕ Nat) := ev_code [ev_r119_0 E, ev_r119_1 E, ev_r119_2 E]
noncomputable def ev_r120_0 (E : ev_E) : List (Option (ev_I ⊕ Nat)) := [ev_oi (ev_push 1 (ev_int 0)), ev_oi (ev_istore 2 1), ev_oi (ev_iload 3 1), ev_oi (ev_push 6 (ev_int 512)), ev_no, ev_no, ev_oi (ev_icmp 3 9 22), ev_no, ev_no, ev_oi (ev_aload 10 0), ev_oi (ev_get 13 17 1), ev_no, ev_no, ev_oi (ev_iload 14 1), ev_oi (ev_push 15 ev_null), ev_oi (ev_astq 16 16 21)]
noncomputable def ev_r120_1 (E : ev_E) : List (Option (ev_I ⊕ Nat)) := [ev_oi (ev_iinc 19 1 1), ev_no, ev_no, ev_oi (ev_goto 2), ev_no, ev_no, ev_oi (ev_aload 23 0), ev_oi (ev_push 24 (ev_int 0)), ev_oi (ev_put 27 17 2 0), ev_no, ev_no, ev_oi (ev_aload 28 0), ev_oi (ev_push 29 (ev_int 0)), ev_oi (ev_put 32 17 3 0), ev_no, ev_no]
noncomputable def ev_r120_2 (E : ev_E) : List (Option (ev_I ⊕ Nat)) := [ev_os 0, ev_no, ev_no, ev_no, ev_no, ev_no, ev_no, ev_no, ev_no, ev_no, ev_no, ev_no, ev_no, ev_no, ev_no, ev_no]
/-- 120: TextShellModel$Table.clear()V -/
noncomputable def ev_m120 (E : ev_E) : Nat → Option (ev_I ⊕ Nat) := ev_code [ev_r120_0 E, ev_r120_1 E, ev_r120_2 E]
noncomputable def ev_r121_0 (E : ev_E) : List (Option (ev_I ⊕ Nat)) := [ev_oi (ev_aload 1 1), ev_oi (ev_call 4 119 1 0 0 0 0 ev_rc1 E), ev_no, ev_no, ev_oi (ev_istore 5 3), ev_oi (ev_aload 6 0), ev_oi (ev_get 9 17 1), ev_no, ev_no, ev_oi (ev_iload 10 3), ev_oi (ev_ald 11 16), ev_oi (ev_astore 13 4), ev_no, ev_oi (ev_aload 15 4), ev_no, ev_oi (ev_ifnull 18 40)]
noncomputable def ev_r121_2 (E : ev_E) : List (Option (ev_I ⊕ Nat)) := [ev_no, ev_no, ev_no, ev_no, ev_no, ev_no, ev_no, ev_no, ev_oi (ev_aload 42 4), ev_no, ev_oi (ev_ifnonnull 45 49), ev_no, ev_no, ev_oi (ev_iload 46 2), ev_oi (ev_if 1 49 52), ev_no]
noncomputable def ev_r121_3 (E : ev_E) : List (Option (ev_I ⊕ Nat)) := [ev_no, ev_oi (ev_aload 51 4), ev_no, ev_os 5, ev_no, ev_no, ev_no, ev_no, ev_no, ev_no, ev_no, ev_no, ev_no, ev_no, ev_no, ev_no]
/-- 121: TextShellModel$Table.find([BZ)LTextShellModel$Entry; -/
noncomputable def ev_m121 (E : ev_E) : Nat → Option (ev_I ⊕ Nat) := ev_code [ev_r121_0 E, [], ev_r121_2 E, ev_r121_3 E]
noncomputable def ev_r122_0 (E : ev_E) : List (Option (ev_I ⊕ Nat)) := [ev_oi (ev_aload 1 0), ev_oi (ev_call 4 125 1 0 0 0 0 ev_rclit E), ev_no, ev_no, ev_oi (ev_if 0 7 16), ev_no, ev_no, ev_oi (ev_aload 8 0), ev_oi (ev_getx 11 ev_lit_value), ev_no, ev_no, ev_oi (ev_iload 12 1), ev_oi (ev_call 15 127 2 0 0 0 0 ev_rc1 E), ev_no, ev_no, ev_os 3]
/-- 122: java/lang/String.charAt(I)C -/
noncomputable def ev_m122 (E : ev_E) : Nat → Option (ev_I ⊕ Nat) := ev_code [ev_r122_0 E]
noncomputable def ev_r123_0 (E : ev_E) : List (Option (ev_I ⊕ Nat)) := [ev_oi (ev_iload 1 0), ev_oi (ev_iload 2 1), ev_oi (ev_push 5 (ev_ext 2000)), ev_no, ev_no, ev_oi (ev_call 8 131 3 0 0 0 0 ev_rc1 E), ev_no, ev_no, ev_oi (ev_pop 9), ev_os 0, ev_no, ev_no, ev_no, ev_no, ev_no, ev_no]
/-- 123: java/lang/String.checkIndex(II)V -/
noncomputable def ev_m123 (E : ev_E) : Nat → Option (ev_I ⊕ Nat) := ev_code [ev_r123_0 E]
noncomputable def ev_r124_0 (E : ev_E) : List (Option (ev_I ⊕ Nat)) := [ev_oi (ev_push 3 (ev_int 1)), ev_no, ev_no, ev_oi (ev_if 0 6 13), ev_no, ev_no, ev_oi (ev_aload 7 0), ev_oi (ev_getx 10 ev_lit_coder), ev_no, ev_no, ev_oi (ev_goto 14), ev_no, ev_no, ev_no, ev_os 4, ev_no]
/-- 124: java/lang/String.coder()B -/
noncomputable def ev_m124 (E : ev_E) : Nat → Option (ev_I ⊕ Nat) := ev_code [ev_r124_0 E]
noncomputable def ev_r125_0 (E : ev_E) : List (Option (ev_I ⊕ Nat)) := [ev_oi (ev_push 3 (ev_int 1)), ev_no, ev_no, ev_oi (ev_if 0 6 17), ev_no, ev_no, ev_oi (ev_aload 7 0), ev_oi (ev_getx 10 ev_lit_coder), ev_no, ev_no, ev_oi (ev_if 1 13 17), ev_no, ev_no, ev_oi (ev_push 14 (ev_int 1)), ev_oi (ev_goto 18), ev_no]
noncomputable def ev_r125_1 (E : ev_E) : List (Option (ev_I ⊕ Nat)) := [ev_no, ev_no, ev_os 2, ev_no, ev_no, ev_no, ev_no, ev_no, ev_no, ev_no, ev_no, ev_no, ev_no, ev_no, ev_no, ev_no]
/-- 125: java/lang/String.isLatin1()Z -/
noncomputable def ev_m125 (E : ev_E) : Nat → Option (ev_I ⊕ Nat) := ev_code [ev_r125_0 E, ev_r125_1 E]
noncomputable def ev_r126_0 (E : ev_E) : List (Option (ev_I ⊕ Nat)) := [ev_oi (ev_aload 1 0), ev_oi (ev_getx 4 ev_lit_value), ev_no, ev_no, ev_oi (ev_alenx 5 ev_lit_len), ev_oi (ev_aload 6 0), ev_oi (ev_call 9 124 1 0 0 0 0 ev_rclit E), ev_no, ev_no, ev_oi (ev_shr0 10), ev_os 1, ev_no, ev_no, ev_no, ev_no, ev_no]
/-- 126: java/lang/String.length()I -/
noncomputable def ev_m126 (E : ev_E) : Nat → Option (ev_I ⊕ Nat) := ev_code [ev_r126_0 E]
noncomputable def ev_r127_0 (E : ev_E) : List (Option (ev_I ⊕ Nat)) := [ev_oi (ev_iload 1 1), ev_oi (ev_aload 2 0), ev_oi (ev_alenx 3 ev_lit_len), ev_oi (ev_call 6 123 2 0 0 0 0 ev_rc1 E), ev_no, ev_no, ev_oi (ev_aload 7 0), ev_oi (ev_iload 8 1), ev_oi (ev_aldx 9 ev_lit_at), ev_oi (ev_push 12 (ev_int 255)), ev_no, ev_no, ev_oi (ev_bin ev_and 13), ev_oi (ev_un ev_c16 0 65535 14), ev_os 3, ev_no]
/-- 127: java/lang/StringLatin1.charAt([BI)C -/
noncomputable def ev_m127 (E : ev_E) : Nat → Option (ev_I ⊕ Nat) := ev_code [ev_r127_0 E]
noncomputable def ev_r128_0 (E : ev_E) : List (Option (ev_I ⊕ Nat)) := [ev_oi (ev_aload 1 0), ev_oi (ev_objinit 4), ev_no, ev_no, ev_os 0, ev_no, ev_no, ev_no, ev_no, ev_no, ev_no, ev_no, ev_no, ev_no, ev_no, ev_no]
/-- 128: java/util/AbstractCollection.<init>()V -/
noncomputable def ev_m128 (E : ev_E) : Nat → Option (ev_I ⊕ Nat) := ev_code [ev_r128_0 E]
noncomputable def ev_r129_0 (E : ev_E) : List (Option (ev_I ⊕ Nat)) := [ev_oi (ev_aload 1 0), ev_oi (ev_call 4 128 1 0 0 0 0 (ev_recv 16) E), ev_no, ev_no, ev_oi (ev_aload 5 0), ev_oi (ev_push 6 (ev_int 0)), ev_oi (ev_put 9 16 0 0), ev_no, ev_no, ev_os 0, ev_no, ev_no, ev_no, ev_no, ev_no, ev_no]
/-- 129: java/util/AbstractList.<init>()V -/
noncomputable def ev_m129 (E : ev_E) : Nat → Option (ev_I ⊕ Nat) := ev_code [ev_r129_0 E]
noncomputable def ev_r130_0 (E : ev_E) : List (Option (ev_I ⊕ Nat)) := [ev_oi (ev_aload 1 0), ev_oi (ev_call 4 129 1 0 0 0 0 (ev_recv 16) E), ev_no, ev_no, ev_oi (ev_aload 5 0), ev_oi (ev_push 8 (ev_ext 2001)), ev_no, ev_no, ev_oi (ev_put 11 16 1 5), ev_no, ev_no, ev_os 0, ev_no, ev_no, ev_no, ev_no]
/-- 130: java/util/ArrayList.<init>()V -/
noncomputable def ev_m130 (E : ev_E) : Nat → Option (ev_I ⊕ Nat) := ev_code [ev_r130_0 E]
noncomputable def ev_r131_0 (E : ev_E) : List (Option (ev_I ⊕ Nat)) := [ev_oi (ev_iload 1 0), ev_oi (ev_if 2 4 9), ev_no, ev_no, ev_oi (ev_iload 5 0), ev_oi (ev_iload 6 1), ev_oi (ev_icmp 2 9 16), ev_no, ev_no, ev_no, ev_no, ev_no, ev_no, ev_no, ev_no, ev_no]
noncomputable def ev_r131_1 (E : ev_E) : List (Option (ev_I ⊕ Nat)) := [ev_oi (ev_iload 17 0), ev_os 1, ev_no, ev_no, ev_no, ev_no, ev_no, ev_no, ev_no, ev_no, ev_no, ev_no, ev_no, ev_no, ev_no, ev_no]
/-- 131: jdk/internal/util/Preconditions.checkIndex(IILjava/util/function/BiFunction;)I -/
noncomputable def ev_m131 (E : ev_E) : Nat → Option (ev_I ⊕ Nat) := ev_code [ev_r131_0 E, ev_r131_1 E]
noncomputable def ev_ms : List (ev_E → Nat → Option (ev_I ⊕ Nat)) := [ev_m0, ev_m1, ev_m2, ev_m3, ev_m4, ev_m5, ev_m6, ev_m7, ev_m8, ev_m9, ev_m10, ev_m11, ev_m12, ev_m13, ev_m14, ev_m15, ev_m16, ev_m17, ev_m18, ev_m19, ev_m20, ev_m21, ev_m22, ev_m23, ev_m24, ev_m25, ev_m26, ev_m27, ev_m28, ev_m29, ev_m30, ev_m31, ev_m32, ev_m33, ev_m34, ev_m35, ev_m36, ev_m37, ev_m38, ev_m39, ev_m40, ev_m41, ev_m42, ev_m43, ev_m44, ev_m45, ev_m46, ev_m47, ev_m48, ev_m49, ev_m50, ev_m51, ev_m52, ev_m53, ev_m54, ev_m55, ev_m56, ev_m57, ev_m58, ev_m59, ev_m60, ev_m61, ev_m62, ev_m63, ev_m64, ev_m65, ev_m66, ev_m67, ev_m68, ev_m69, ev_m70, ev_m71, ev_m72, ev_m73, ev_m74, ev_m75, ev_m76, ev_m77, ev_m78, ev_m79, ev_m80, ev_m81, ev_m82, ev_m83, ev_m84, ev_m85, ev_m86, ev_m87, ev_m88, ev_m89, ev_m90, ev_m91, ev_m92, ev_m93, ev_m94, ev_m95, ev_m96, ev_m97, ev_m98, ev_m99, ev_m100, ev_m101, ev_m102, ev_m103, ev_m104, ev_m105, ev_m106, ev_m107, ev_m108, ev_m109, ev_m110, ev_m111, ev_m112, ev_m113, ev_m114, ev_m115, ev_m116, ev_m117, ev_m118, ev_m119, ev_m120, ev_m121, ev_m122, ev_m123, ev_m124, ev_m125, ev_m126, ev_m127, ev_m128, ev_m129, ev_m130, ev_m131]
noncomputable def ev_mc (mid : Nat) (E : ev_E) (pc : Nat) : Option (ev_I ⊕ Nat) := match ev_lg ev_ms mid with
  | some f => f E pc
  | none => none
def ev_lnL : List Nat := [2, 4, 3, 4, 2, 6, 2, 4, 3, 1, 6, 3, 3, 1, 2, 5, 5, 4, 1, 2, 4, 1, 3, 4, 2, 6, 5, 3, 2, 1, 1, 3, 4, 1, 2, 2, 2, 2, 3, 5, 1, 6, 1, 3, 3, 5, 6, 2, 5, 2, 6, 1, 2, 3, 5, 3, 2, 1, 3, 5, 3, 3, 5, 5, 2, 4, 2, 5, 3, 7, 3, 6, 4, 4, 1, 6, 4, 1, 4, 2, 2, 3, 6, 3, 5, 4, 1, 3, 3, 5, 5, 1, 9, 3, 3, 1, 2, 2, 8, 3, 1, 1, 4, 1, 3, 1, 7, 1, 7, 2, 2, 1, 1, 2, 2, 1, 2, 2, 1, 3, 2, 5, 2, 2, 1, 1, 1, 2, 1, 1, 1, 3]
def ev_nL (mid : Nat) : Nat := match ev_lg ev_lnL mid with
  | some x => x
  | none => 0
def ev_lcm : List Nat := [357, 2, 0, 0, 0, 0, 0, 0, 1, 1, 4, 0, 8, 0, 1, 0, 0, 15, 0, 0, 0, 296, 5, 0, 0, 0, 3, 5, 2, 195, 80, 0, 0, 0, 5, 1, 1, 0, 1, 1, 0, 1, 0, 0, 0, 0, 4, 0, 6, 0, 0, 0, 1, 0, 0, 0, 0, 0, 0, 2, 0, 17, 0, 1, 4, 13, 0, 2, 1, 452, 1, 4, 8, 1, 72, 0, 1, 6, 0, 0, 0, 0, 20, 4, 0, 4, 0, 0, 0, 1, 1, 0, 2, 4, 3, 6, 0, 0, 3, 1, 0, 1, 1, 0, 0, 0, 1, 0, 0, 0, 0, 0, 0, 0, 0, 0, 0, 0, 2, 0, 0, 0, 0, 0, 0, 0, 0, 0, 0, 0, 0, 0]
def ev_cm (mid : Nat) : Nat := match ev_lg ev_lcm mid with
  | some x => x
  | none => 0
def ev_lsm : List Nat := [18203, 66, 0, 0, 0, 0, 0, 0, 6, 6, 132, 0, 190, 0, 6, 0, 0, 7183, 0, 0, 0, 9230, 142, 0, 0, 0, 76, 142, 66, 5538, 2272, 0, 0, 0, 210, 15, 15, 0, 15, 15, 0, 19, 0, 0, 0, 0, 94, 0, 124, 0, 0, 0, 64, 0, 0, 0, 0, 0, 0, 66, 0, 365, 0, 9, 6210, 910, 0, 66, 6, 22780, 6, 132, 190, 6, 3822, 0, 0, 30, 0, 0, 0, 0, 640, 128, 0, 23, 0, 0, 0, 5, 0, 0, 0, 26, 26, 30, 0, 0, 26, 0, 0, 16, 32, 0, 0, 0, 8, 0, 0, 0, 0, 0, 0, 0, 0, 0, 0, 0, 515, 0, 0, 0, 0, 0, 0, 0, 0, 0, 0, 0, 0, 0]
def ev_sm (mid : Nat) : Nat := match ev_lg ev_lsm mid with
  | some x => x
  | none => 0
def ev_e0 : (n : Nat) → ev_T (Option ev_C) n
  | 0 => none
  | n + 1 => (ev_e0 n, ev_e0 n)
end
section
/-! THE PROOFS OF THE TABLES (printed by wip/ev/pf.py). -/
def ev_cl : List vw_C := [(RX6, TX6, 2), (RX12, TX12, 10), (RX2, TX2, 21), (RX5, TX5, 22), (RX7, TX7, 24), (RX0, TX0, 22), (RX10, TX10, 18), (RX8, TX8, 9), (RX4, TX4, 12), (RX9, TX9, 11), (RX1, TX1, 19), (RX3, TX3, 10), (RX11, TX11, 15), (RX28, TX28, 104), (RX14, TX14, 2), (RX21, TX21, 7), (RJx4a65c, TJx4a65c, 3), (RX26, TX26, 4), (RX22, TX22, 5), (RX25, TX25, 17), (RX19, TX19, 8), (RX18, TX18, 8)]
def ev_tys : List FieldType := [.object "TextShell$Stream", .int, .object "TextShell$Row", .object "TextShell$Node", .object "TextShell$Name", .char, .object "TextShell$Frame", .object "TextShell$Tree", .long, .boolean, .array .byte, .byte, .object "TextShellModel$Open", .object "TextShellModel$Cmd", .array .int, .object "TextShellModel$Node", .object "TextShellModel$Entry"]
def ev_ty (i : Nat) : FieldType := match ev_lg ev_tys i with
  | some t => t
  | none => .int
def ev_w120 : List Cond := [.fieldLink RX26 18 "TextShellModel$Table" "heads" "[LTextShellModel$Entry;", .fieldLink RX26 45 "TextShellModel$Table" "many" "I", .fieldLink RX26 49 "TextShellModel$Table" "fixed" "I"]
def ev_Ws : List (List Cond) := [[], [], [], [], [], [], [], [], [], [], [], [], [], [], [], [], [], [], [], [], [], [], [], [], [], [], [], [], [], [], [], [], [], [], [], [], [], [], [], [], [], [], [], [], [], [], [], [], [], [], [], [], [], [], [], [], [], [], [], [], [], [], [], [], [], [], [], [], [], [], [], [], [], [], [], [], [], [], [], [], [], [], [], [], [], [], [], [], [], [], [], [], [], [], [], [], [], [], [], [], [], [], [], [], [], [], [], [], [], [], [], [], [], [], [], [], [], [], [], [], ev_w120, [], [], [], [], [], [], [], [], [], [], [], u_ws RX6 TX6 2, u_ws RX12 TX12 10, u_ws RX2 TX2 21, u_ws RX5 TX5 22, u_ws RX7 TX7 24, u_ws RX0 TX0 22, u_ws RX10 TX10 18, u_ws RX8 TX8 9, u_ws RX4 TX4 12, u_ws RX9 TX9 11, u_ws RX1 TX1 19, u_ws RX3 TX3 10, u_ws RX11 TX11 15, u_ws RX28 TX28 104, u_ws RX14 TX14 2, u_ws RX21 TX21 7, u_ws RJx4a65c TJx4a65c 3, u_ws RX26 TX26 4, u_ws RX22 TX22 5, u_ws RX25 TX25 17, u_ws RX19 TX19 8, u_ws RX18 TX18 8]
def ev_W : List Cond := ev_Ws.flatten
theorem ev_wm {a i : Nat} {r : List Cond} {w : Cond} (h1 : ev_Ws[a]? = some r) (h2 : r[i]? = some w) : w ∈ ev_W := List.mem_flatten.mpr ⟨r, List.mem_of_getElem? h1, List.mem_of_getElem? h2⟩
theorem ev_wmL {a : Nat} {r : List Cond} (h1 : ev_Ws[a]? = some r) : ∀ w ∈ r, w ∈ ev_W := fun w h => List.mem_flatten.mpr ⟨r, List.mem_of_getElem? h1, h⟩
theorem inW_X6 : ∀ w ∈ u_ws RX6 TX6 2, w ∈ ev_W := ev_wmL (a := 132) rfl
theorem inW_X12 : ∀ w ∈ u_ws RX12 TX12 10, w ∈ ev_W := ev_wmL (a := 133) rfl
theorem inW_X2 : ∀ w ∈ u_ws RX2 TX2 21, w ∈ ev_W := ev_wmL (a := 134) rfl
theorem inW_X5 : ∀ w ∈ u_ws RX5 TX5 22, w ∈ ev_W := ev_wmL (a := 135) rfl
theorem inW_X7 : ∀ w ∈ u_ws RX7 TX7 24, w ∈ ev_W := ev_wmL (a := 136) rfl
theorem inW_X0 : ∀ w ∈ u_ws RX0 TX0 22, w ∈ ev_W := ev_wmL (a := 137) rfl
theorem inW_X10 : ∀ w ∈ u_ws RX10 TX10 18, w ∈ ev_W := ev_wmL (a := 138) rfl
theorem inW_X8 : ∀ w ∈ u_ws RX8 TX8 9, w ∈ ev_W := ev_wmL (a := 139) rfl
theorem inW_X4 : ∀ w ∈ u_ws RX4 TX4 12, w ∈ ev_W := ev_wmL (a := 140) rfl
theorem inW_X9 : ∀ w ∈ u_ws RX9 TX9 11, w ∈ ev_W := ev_wmL (a := 141) rfl
theorem inW_X1 : ∀ w ∈ u_ws RX1 TX1 19, w ∈ ev_W := ev_wmL (a := 142) rfl
theorem inW_X3 : ∀ w ∈ u_ws RX3 TX3 10, w ∈ ev_W := ev_wmL (a := 143) rfl
theorem inW_X11 : ∀ w ∈ u_ws RX11 TX11 15, w ∈ ev_W := ev_wmL (a := 144) rfl
theorem inW_X28 : ∀ w ∈ u_ws RX28 TX28 104, w ∈ ev_W := ev_wmL (a := 145) rfl
theorem inW_X14 : ∀ w ∈ u_ws RX14 TX14 2, w ∈ ev_W := ev_wmL (a := 146) rfl
theorem inW_X21 : ∀ w ∈ u_ws RX21 TX21 7, w ∈ ev_W := ev_wmL (a := 147) rfl
theorem inW_Jx4a65c : ∀ w ∈ u_ws RJx4a65c TJx4a65c 3, w ∈ ev_W := ev_wmL (a := 148) rfl
theorem inW_X26 : ∀ w ∈ u_ws RX26 TX26 4, w ∈ ev_W := ev_wmL (a := 149) rfl
theorem inW_X22 : ∀ w ∈ u_ws RX22 TX22 5, w ∈ ev_W := ev_wmL (a := 150) rfl
theorem inW_X25 : ∀ w ∈ u_ws RX25 TX25 17, w ∈ ev_W := ev_wmL (a := 151) rfl
theorem inW_X19 : ∀ w ∈ u_ws RX19 TX19 8, w ∈ ev_W := ev_wmL (a := 152) rfl
theorem inW_X18 : ∀ w ∈ u_ws RX18 TX18 8, w ∈ ev_W := ev_wmL (a := 153) rfl
theorem ev_h120_0 {p : Program} {l : Launch} {e : Env} {R : Room} {s : State} {m : MethodId} {args : Array Value} {below : List Frame} {meth : Method} {c : Code} {Q : State → Prop} {D : va_G} {A : Nat → Prop} {ex : Nat → Value} {ad0 : List Nat} (E : ev_E) (S : CallFix p m c cX26_clear 2 s args ev_W RX26) (hname : meth.name = "clear") : ev_okR (fun pc f => ev_Sim p l e R s m args below meth c Q 2 D ev_cl A s.heap ex ad0 ev_ty pc f) (fun pc k => ev_stop k cX26_clear pc none) 0 (ev_r120_0 E) :=
  ev_pc (ev_iconst_ok S.1 S.2.1 dX26_clear_0 rfl rfl) (ev_pc (ev_istore_n_ok S.1 S.2.1 dX26_clear_1 rfl) (ev_pc (ev_iload_n_ok S.1 S.2.1 dX26_clear_2 rfl) (ev_pc (ev_sipush_ok S.1 S.2.1 dX26_clear_3 rfl rfl) (ev_pn (ev_pn (ev_pc (ev_icmp_ge_ok S.1 S.2.1 dX26_clear_6 rfl) (ev_pn (ev_pn (ev_pc (ev_aload_n_ok S.1 S.2.1 dX26_clear_9 rfl) (ev_pc (ev_get_ok (ref := "TextShellModel$Table") S.1 S.2.1 S.2.2.2.2 inW_X26 S.2.2.2.1 (hc := (rfl : ev_cl[17]? = some (RX26, TX26, 4))) (j := 1) (by decide) (S.2.2.2.2 _ (ev_wm (a := 120) (i := 0) (r := ev_w120) rfl rfl)) (fun _ h => h) dX26_clear_10) (ev_pn (ev_pn (ev_pc (ev_iload_n_ok S.1 S.2.1 dX26_clear_13 rfl) (ev_pc (ev_null_ok S.1 S.2.1 dX26_clear_14) (ev_pc (ev_astq_ok S.1 S.2.1 rfl rfl dX26_clear_15) (ev_pz))))))))))))))))
theorem ev_h120_1 {p : Program} {l : Launch} {e : Env} {R : Room} {s : State} {m : MethodId} {args : Array Value} {below : List Frame} {meth : Method} {c : Code} {Q : State → Prop} {D : va_G} {A : Nat → Prop} {ex : Nat → Value} {ad0 : List Nat} (E : ev_E) (S : CallFix p m c cX26_clear 2 s args ev_W RX26) (hname : meth.name = "clear") : ev_okR (fun pc f => ev_Sim p l e R s m args below meth c Q 2 D ev_cl A s.heap ex ad0 ev_ty pc f) (fun pc k => ev_stop k cX26_clear pc none) 16 (ev_r120_1 E) :=
  ev_pc (ev_iinc_ok S.1 S.2.1 dX26_clear_16 rfl) (ev_pn (ev_pn (ev_pc (ev_goto_ok S.1 S.2.1 dX26_clear_19 rfl) (ev_pn (ev_pn (ev_pc (ev_aload_n_ok S.1 S.2.1 dX26_clear_22 rfl) (ev_pc (ev_iconst_ok S.1 S.2.1 dX26_clear_23 rfl rfl) (ev_pc (ev_put_ok (ref := "TextShellModel$Table") S.1 S.2.1 S.2.2.2.2 inW_X26 tyX26 tyX26_ok nmX26 S.2.2.2.1 (hc := (rfl : ev_cl[17]? = some (RX26, TX26, 4))) (j := 2) (by decide) (S.2.2.2.2 _ (ev_wm (a := 120) (i := 1) (r := ev_w120) rfl rfl)) (fun _ h => h) rfl rfl dX26_clear_24) (ev_pn (ev_pn (ev_pc (ev_aload_n_ok S.1 S.2.1 dX26_clear_27 rfl) (ev_pc (ev_iconst_ok S.1 S.2.1 dX26_clear_28 rfl rfl) (ev_pc (ev_put_ok (ref := "TextShellModel$Table") S.1 S.2.1 S.2.2.2.2 inW_X26 tyX26 tyX26_ok nmX26 S.2.2.2.1 (hc := (rfl : ev_cl[17]? = some (RX26, TX26, 4))) (j := 3) (by decide) (S.2.2.2.2 _ (ev_wm (a := 120) (i := 2) (r := ev_w120) rfl rfl)) (fun _ h => h) rfl rfl dX26_clear_29) (ev_pn (ev_pn (ev_pz))))))))))))))))
theorem ev_h120_2 {p : Program} {l : Launch} {e : Env} {R : Room} {s : State} {m : MethodId} {args : Array Value} {below : List Frame} {meth : Method} {c : Code} {Q : State → Prop} {D : va_G} {A : Nat → Prop} {ex : Nat → Value} {ad0 : List Nat} (E : ev_E) (S : CallFix p m c cX26_clear 2 s args ev_W RX26) (hname : meth.name = "clear") : ev_okR (fun pc f => ev_Sim p l e R s m args below meth c Q 2 D ev_cl A s.heap ex ad0 ev_ty pc f) (fun pc k => ev_stop k cX26_clear pc none) 32 (ev_r120_2 E) :=
  ev_ps ⟨dX26_clear_32, rfl⟩ (ev_pn (ev_pn (ev_pn (ev_pn (ev_pn (ev_pn (ev_pn (ev_pn (ev_pn (ev_pn (ev_pn (ev_pn (ev_pn (ev_pn (ev_pn (ev_pz))))))))))))))))
end
