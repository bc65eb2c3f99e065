/-! A PROVED EVALUATOR. Pictures of values, cells and heaps; an instruction is a function on pictures; nothing here speaks of a class. -/
/-- int (from lo to hi), long (from lo to hi), null, the cell at a place of the world, a thing outside of it -/
abbrev ev_V : Type := (Int × Int) ⊕ ((Int × Int) ⊕ Option (Nat ⊕ Nat))
/-- an object: its class's number, its fields; an array: its kind, its length, its elements -/
abbrev ev_C : Type := (Nat × List ev_V) ⊕ (Nat × Nat × List ev_V)
def ev_T (α : Type) : Nat → Type
  | 0 => α
  | n + 1 => ev_T α n × ev_T α n
def ev_tg {α : Type} : (n : Nat) → ev_T α n → Nat → α
  | 0, t, _ => t
  | n + 1, t, k => match (t : ev_T α n × ev_T α n) with
    | (l, r) => cond (Nat.beq (k % 2) 0) (ev_tg n l (k / 2)) (ev_tg n r (k / 2))
def ev_tS {α : Type} : (n : Nat) → ev_T α n → Nat → α → ev_T α n
  | 0, _, _, v => v
  | n + 1, t, k, v => match (t : ev_T α n × ev_T α n) with
    | (l, r) => cond (Nat.beq (k % 2) 0) (ev_tS n l (k / 2) v, r) (l, ev_tS n r (k / 2) v)
/-- the same, the new one made whole before it goes on -/
def ev_ts {α β : Type} : (n : Nat) → ev_T α n → Nat → α → (ev_T α n → β) → β
  | 0, _, _, v, κ => κ v
  | n + 1, t, k, v, κ => match (t : ev_T α n × ev_T α n) with
    | (l, r) => cond (Nat.beq (k % 2) 0) (ev_ts n l (k / 2) v (fun l' => κ (l', r))) (ev_ts n r (k / 2) v (fun r' => κ (l, r')))
theorem ev_ts_eq {α β : Type} : ∀ (n : Nat) (t : ev_T α n) (k : Nat) (v : α) (κ : ev_T α n → β), ev_ts n t k v κ = κ (ev_tS n t k v)
  | 0, _, _, _, _ => rfl
  | n + 1, (l, r), k, v, κ => by
    show cond (Nat.beq (k % 2) 0) (ev_ts n l (k / 2) v (fun l' => κ (l', r))) (ev_ts n r (k / 2) v (fun r' => κ (l, r'))) = κ (cond (Nat.beq (k % 2) 0) (ev_tS n l (k / 2) v, r) (l, ev_tS n r (k / 2) v))
    cases Nat.beq (k % 2) 0
    · exact ev_ts_eq n r (k / 2) v _
    · exact ev_ts_eq n l (k / 2) v _
theorem ev_mod2 (n j : Nat) : j % 2 ^ (n + 1) = j % 2 + 2 * (j / 2 % 2 ^ n) := by
  rw [Nat.pow_succ, Nat.mul_comm]
  exact Nat.mod_mul
theorem ev_b0 (n : Nat) : Nat.beq n 0 = decide (n = 0) := by
  by_cases h : n = 0
  · subst h
    rfl
  · rw [decide_eq_false h]
    cases n with
    | zero => exact absurd rfl h
    | succ n => rfl
theorem ev_tg_S {α : Type} : ∀ (n : Nat) (t : ev_T α n) (k : Nat) (v : α) (j : Nat), ev_tg n (ev_tS n t k v) j = if j % 2 ^ n = k % 2 ^ n then v else ev_tg n t j
  | 0, t, k, v, j => by
    have h : j % 2 ^ 0 = k % 2 ^ 0 := by simp [Nat.mod_one]
    rw [if_pos h]
    rfl
  | n + 1, (l, r), k, v, j => by
    show ev_tg (n + 1) (cond (Nat.beq (k % 2) 0) (ev_tS n l (k / 2) v, r) (l, ev_tS n r (k / 2) v)) j = if j % 2 ^ (n + 1) = k % 2 ^ (n + 1) then v else cond (Nat.beq (j % 2) 0) (ev_tg n l (j / 2)) (ev_tg n r (j / 2))
    rw [ev_mod2 n j, ev_mod2 n k]
    have hk : Nat.beq (k % 2) 0 = decide (k % 2 = 0) := ev_b0 _
    have hj : Nat.beq (j % 2) 0 = decide (j % 2 = 0) := ev_b0 _
    have e1 := ev_tg_S n l (k / 2) v (j / 2)
    have e2 := ev_tg_S n r (k / 2) v (j / 2)
    by_cases a : k % 2 = 0 <;> by_cases b : j % 2 = 0
    · rw [hk, decide_eq_true a]
      show cond (Nat.beq (j % 2) 0) (ev_tg n (ev_tS n l (k / 2) v) (j / 2)) (ev_tg n r (j / 2)) = _
      rw [hj, decide_eq_true b]
      show ev_tg n (ev_tS n l (k / 2) v) (j / 2) = if _ then v else ev_tg n l (j / 2)
      rw [e1]
      by_cases q : j / 2 % 2 ^ n = k / 2 % 2 ^ n
      · rw [if_pos q, if_pos (by omega)]
      · rw [if_neg q, if_neg (by omega)]
    · rw [hk, decide_eq_true a]
      show cond (Nat.beq (j % 2) 0) (ev_tg n (ev_tS n l (k / 2) v) (j / 2)) (ev_tg n r (j / 2)) = _
      rw [hj, decide_eq_false b, if_neg (by omega)]
      rfl
    · rw [hk, decide_eq_false a]
      show cond (Nat.beq (j % 2) 0) (ev_tg n l (j / 2)) (ev_tg n (ev_tS n r (k / 2) v) (j / 2)) = _
      rw [hj, decide_eq_true b, if_neg (by omega)]
      rfl
    · rw [hk, decide_eq_false a]
      show cond (Nat.beq (j % 2) 0) (ev_tg n l (j / 2)) (ev_tg n (ev_tS n r (k / 2) v) (j / 2)) = _
      rw [hj, decide_eq_false b]
      show ev_tg n (ev_tS n r (k / 2) v) (j / 2) = if _ then v else ev_tg n r (j / 2)
      rw [e2]
      by_cases q : j / 2 % 2 ^ n = k / 2 % 2 ^ n
      · rw [if_pos q, if_pos (by omega)]
      · rw [if_neg q, if_neg (by omega)]
/-- numbers are made whole before they go on -/
def ev_fN {β : Type} (n : Nat) (κ : Nat → β) : β := match n with
  | 0 => κ 0
  | m + 1 => κ (m + 1)
theorem ev_fN_eq {β : Type} (n : Nat) (κ : Nat → β) : ev_fN n κ = κ n := by cases n <;> rfl
def ev_fI {β : Type} (z : Int) (κ : Int → β) : β := match z with
  | .ofNat n => ev_fN n (fun m => κ (.ofNat m))
  | .negSucc n => ev_fN n (fun m => κ (.negSucc m))
theorem ev_fI_eq {β : Type} (z : Int) (κ : Int → β) : ev_fI z κ = κ z := by
  cases z with
  | ofNat n => exact ev_fN_eq n (fun m => κ (.ofNat m))
  | negSucc n => exact ev_fN_eq n (fun m => κ (.negSucc m))
def ev_lg {α : Type} : List α → Nat → Option α
  | [], _ => none
  | a :: l, k => match k with
    | 0 => some a
    | k + 1 => ev_lg l k
theorem ev_lg_eq {α : Type} : ∀ (l : List α) (k : Nat), ev_lg l k = l[k]?
  | [], k => by simp [ev_lg]
  | a :: l, 0 => by simp [ev_lg]
  | a :: l, k + 1 => by
    show ev_lg l k = _
    rw [ev_lg_eq l k, List.getElem?_cons_succ]
def ev_ls {α β : Type} : List α → Nat → α → (List α → β) → β → β
  | [], _, _, _, f => f
  | a :: l, k, v, κ, f => match k with
    | 0 => κ (v :: l)
    | k + 1 => ev_ls l k v (fun l' => κ (a :: l')) f
theorem ev_ls_eq {α β : Type} : ∀ (l : List α) (k : Nat) (v : α) (κ : List α → β) (f : β), ev_ls l k v κ f = if k < l.length then κ (l.set k v) else f
  | [], k, v, κ, f => by simp [ev_ls]
  | a :: l, 0, v, κ, f => by simp [ev_ls]
  | a :: l, k + 1, v, κ, f => by
    show ev_ls l k v (fun l' => κ (a :: l')) f = _
    rw [ev_ls_eq l k v _ f]
    simp
/-- how many cells there are; the cells that are known -/
abbrev ev_Hp : Type := Nat × ev_T (Option ev_C) 10
/-- the stack, the locals, the heap, cells and slots made by this frame so far -/
abbrev ev_S : Type := List ev_V × (List (Option ev_V) × (ev_Hp × (Nat × Nat)))
abbrev ev_I : Type := ev_S → Option (Nat × ev_S)
abbrev ev_int (z : Int) : ev_V := .inl (z, z)
abbrev ev_any : ev_V := .inl (-2147483648, 2147483647)
abbrev ev_null : ev_V := .inr (.inr none)
abbrev ev_ref (k : Nat) : ev_V := .inr (.inr (some (.inl k)))
abbrev ev_ext (k : Nat) : ev_V := .inr (.inr (some (.inr k)))
def ev_long (v : ev_V) : Bool := match v with
  | .inr (.inl _) => true
  | _ => false
/-- an int's interval to another's -/
def ev_lt (a b : Int × Int) : Option Bool := match a, b with
  | (a1, a2), (b1, b2) => cond (decide (a2 < b1)) (some true) (cond (decide (b2 ≤ a1)) (some false) none)
def ev_eq (a b : Int × Int) : Option Bool := match a, b with
  | (a1, a2), (b1, b2) => cond (decide (a2 < b1)) (some false) (cond (decide (b2 < a1)) (some false) (cond (decide (a1 = a2) && decide (b1 = b2)) (some true) none))
theorem ev_lt_t {a b : Int × Int} {x y : Int} (h : ev_lt a b = some true) (ha : x ≤ a.2) (hb : b.1 ≤ y) : x < y := by
  obtain ⟨a1, a2⟩ := a
  obtain ⟨b1, b2⟩ := b
  simp only [ev_lt] at h
  by_cases q : a2 < b1
  · dsimp only at ha hb
    omega
  · rw [decide_eq_false q] at h
    by_cases q2 : b2 ≤ a1
    · rw [decide_eq_true q2] at h
      cases h
    · rw [decide_eq_false q2] at h
      cases h
theorem ev_lt_f {a b : Int × Int} {x y : Int} (h : ev_lt a b = some false) (ha : a.1 ≤ x) (hb : y ≤ b.2) : ¬ x < y := by
  obtain ⟨a1, a2⟩ := a
  obtain ⟨b1, b2⟩ := b
  simp only [ev_lt] at h
  by_cases q : a2 < b1
  · rw [decide_eq_true q] at h
    cases h
  · rw [decide_eq_false q] at h
    by_cases q2 : b2 ≤ a1
    · dsimp only at ha hb
      omega
    · rw [decide_eq_false q2] at h
      cases h
theorem ev_eq_t {a b : Int × Int} {x y : Int} (h : ev_eq a b = some true) (ha : a.1 ≤ x) (ha2 : x ≤ a.2) (hb : b.1 ≤ y) (hb2 : y ≤ b.2) : x = y := by
  obtain ⟨a1, a2⟩ := a
  obtain ⟨b1, b2⟩ := b
  simp only [ev_eq] at h
  dsimp only at ha ha2 hb hb2
  by_cases q : a2 < b1
  · rw [decide_eq_true q] at h
    cases h
  · rw [decide_eq_false q] at h
    by_cases q2 : b2 < a1
    · rw [decide_eq_true q2] at h
      cases h
    · rw [decide_eq_false q2] at h
      by_cases q3 : a1 = a2
      · by_cases q4 : b1 = b2
        · omega
        · rw [decide_eq_false q4, decide_eq_true q3] at h
          cases h
      · rw [decide_eq_false q3] at h
        cases h
theorem ev_eq_f {a b : Int × Int} {x y : Int} (h : ev_eq a b = some false) (ha : a.1 ≤ x) (ha2 : x ≤ a.2) (hb : b.1 ≤ y) (hb2 : y ≤ b.2) : ¬ x = y := by
  obtain ⟨a1, a2⟩ := a
  obtain ⟨b1, b2⟩ := b
  simp only [ev_eq] at h
  dsimp only at ha ha2 hb hb2
  by_cases q : a2 < b1
  · omega
  · rw [decide_eq_false q] at h
    by_cases q2 : b2 < a1
    · omega
    · rw [decide_eq_false q2] at h
      by_cases q3 : a1 = a2
      · by_cases q4 : b1 = b2
        · rw [decide_eq_true q4, decide_eq_true q3] at h
          cases h
        · rw [decide_eq_false q4, decide_eq_true q3] at h
          cases h
      · rw [decide_eq_false q3] at h
        cases h
theorem ev_bt {a b : Bool} {α : Type} {x : Option α} {y : α} (h : cond (a && b) x none = some y) : a = true ∧ b = true ∧ x = some y := by
  cases a <;> cases b
  · cases h
  · cases h
  · cases h
  · exact ⟨rfl, rfl, h⟩
theorem ev_bt1 {a : Bool} {α : Type} {x : Option α} {y : α} (h : cond a x none = some y) : a = true ∧ x = some y := by
  cases a
  · cases h
  · exact ⟨rfl, h⟩
