noncomputable section KV01_base
/-! A PROVED EVALUATOR. Pictures of values, cells and heaps; an instruction is a function on pictures; nothing here speaks of a class. -/
/-- int (from lo to hi), long (from lo to hi), null, the cell at a place of the world, a thing outside of it -/
abbrev ev_V : Type := (Int × Int) ⊕ ((Int × Int) ⊕ Option (Nat ⊕ Nat))
/-- an object: its class's number, its fields; an array: its kind, its length, its elements -/
abbrev ev_C : Type := (Nat × List ev_V) ⊕ (Nat × Nat × List ev_V)
def ev_T (α : Type) : Nat → Type
  | 0 => α
  | n + 1 => List (ev_T α n)
noncomputable def ev_lg {α : Type} (l : List α) : Nat → Option α := List.rec (motive := fun _ => Nat → Option α) (fun _ => none) (fun a _ ih k => Nat.rec (motive := fun _ => Option α) (some a) (fun k' _ => ih k') k) l
theorem ev_lg_n {α : Type} (k : Nat) : ev_lg ([] : List α) k = none := rfl
theorem ev_lg_0 {α : Type} (a : α) (l : List α) : ev_lg (a :: l) 0 = some a := rfl
theorem ev_lg_s {α : Type} (a : α) (l : List α) (k : Nat) : ev_lg (a :: l) (k + 1) = ev_lg l k := rfl
def ev_e0 {γ : Type} : (n : Nat) → ev_T (Option γ) n
  | 0 => (none : Option γ)
  | n + 1 => ([] : List (ev_T (Option γ) n))
noncomputable def ev_tg {γ : Type} (n : Nat) : ev_T (Option γ) n → Nat → Option γ := Nat.rec (motive := fun n => ev_T (Option γ) n → Nat → Option γ) (fun t _ => t) (fun n ih t k => match ev_lg (t : List (ev_T (Option γ) n)) (k % 8) with
    | some l => ih l (k / 8)
    | none => none) n
theorem ev_tg_s {γ : Type} (n : Nat) (t : ev_T (Option γ) (n + 1)) (k : Nat) : ev_tg (n + 1) t k = match ev_lg (t : List (ev_T (Option γ) n)) (k % 8) with
    | some l => ev_tg n l (k / 8)
    | none => none := rfl
def ev_lu {δ : Type} (e : δ) (F : δ → δ) : Nat → List δ → List δ
  | 0, [] => [F e]
  | 0, l :: r => F l :: r
  | d + 1, [] => e :: ev_lu e F d []
  | d + 1, l :: r => l :: ev_lu e F d r
def ev_tS {γ : Type} : (n : Nat) → ev_T (Option γ) n → Nat → Option γ → ev_T (Option γ) n
  | 0, _, _, v => v
  | n + 1, t, k, v => (ev_lu (ev_e0 n) (fun l => ev_tS n l (k / 8) v) (k % 8) (t : List (ev_T (Option γ) n)) : List (ev_T (Option γ) n))
noncomputable def ev_lus {δ β : Type} (e : δ) (F : δ → (δ → β) → β) (d : Nat) : List δ → (List δ → β) → β := Nat.rec (motive := fun _ => List δ → (List δ → β) → β) (fun t κ => List.rec (motive := fun _ => β) (F e (fun l => κ [l])) (fun l r _ => F l (fun l' => κ (l' :: r))) t) (fun _ ih t κ => List.rec (motive := fun _ => β) (ih [] (fun r' => κ (e :: r'))) (fun l r _ => ih r (fun r' => κ (l :: r'))) t) d
/-- the same, the new one made whole before it goes on -/
noncomputable def ev_ts {γ β : Type} (n : Nat) : ev_T (Option γ) n → Nat → Option γ → (ev_T (Option γ) n → β) → β := Nat.rec (motive := fun n => ev_T (Option γ) n → Nat → Option γ → (ev_T (Option γ) n → β) → β) (fun _ _ v κ => κ v) (fun n ih t k v κ => ev_lus (ev_e0 n) (fun l κ' => ih l (k / 8) v κ') (k % 8) (t : List (ev_T (Option γ) n)) κ) n
theorem ev_lus_eq {δ β : Type} {e : δ} {F : δ → (δ → β) → β} {G : δ → δ} (h : ∀ l κ, F l κ = κ (G l)) : ∀ (d : Nat) (t : List δ) (κ : List δ → β), ev_lus e F d t κ = κ (ev_lu e G d t)
  | 0, [], κ => h e _
  | 0, l :: r, κ => h l _
  | d + 1, [], κ => ev_lus_eq h d [] _
  | d + 1, l :: r, κ => ev_lus_eq h d r _
theorem ev_ts_eq {γ β : Type} : ∀ (n : Nat) (t : ev_T (Option γ) n) (k : Nat) (v : Option γ) (κ : ev_T (Option γ) n → β), ev_ts n t k v κ = κ (ev_tS n t k v)
  | 0, _, _, _, _ => rfl
  | n + 1, t, k, v, κ => ev_lus_eq (fun l κ' => ev_ts_eq n l (k / 8) v κ') (k % 8) t κ
theorem ev_e0_none {γ : Type} : ∀ (n k : Nat), ev_tg n (ev_e0 n : ev_T (Option γ) n) k = none
  | 0, _ => rfl
  | n + 1, _ => rfl
theorem ev_lu_at {δ : Type} {e : δ} {F : δ → δ} : ∀ (d : Nat) (t : List δ) (i : Nat), ev_lg (ev_lu e F d t) i = if i = d then some (F ((ev_lg t d).getD e)) else if i < d ∧ ev_lg t i = none then some e else ev_lg t i
  | 0, [], 0 => rfl
  | 0, [], i + 1 => by simp [ev_lu, ev_lg_n, ev_lg_0, ev_lg_s]
  | 0, l :: r, 0 => rfl
  | 0, l :: r, i + 1 => by simp [ev_lu, ev_lg_n, ev_lg_0, ev_lg_s]
  | d + 1, [], 0 => by simp [ev_lu, ev_lg_n, ev_lg_0, ev_lg_s]
  | d + 1, [], i + 1 => by
    show ev_lg (ev_lu e F d []) i = _
    rw [ev_lu_at d [] i]
    simp [ev_lg_n, ev_lg_0, ev_lg_s]
  | d + 1, l :: r, 0 => by simp [ev_lu, ev_lg_n, ev_lg_0, ev_lg_s]
  | d + 1, l :: r, i + 1 => by
    show ev_lg (ev_lu e F d r) i = _
    rw [ev_lu_at d r i]
    simp [ev_lg_n, ev_lg_0, ev_lg_s]
theorem ev_mod8 (n j : Nat) : j % 8 ^ (n + 1) = j % 8 + 8 * (j / 8 % 8 ^ n) := by
  rw [Nat.pow_succ, Nat.mul_comm]
  exact Nat.mod_mul
theorem ev_tg_S1 {γ : Type} {n : Nat} (ih : ∀ (t : ev_T (Option γ) n) (k : Nat) (v : Option γ) (j : Nat), ev_tg n (ev_tS n t k v) j = if j % 8 ^ n = k % 8 ^ n then v else ev_tg n t j) (t : List (ev_T (Option γ) n)) (k : Nat) (v : Option γ) (j : Nat) :
    (match ev_lg (ev_lu (ev_e0 n) (fun l => ev_tS n l (k / 8) v) (k % 8) t) (j % 8) with
      | some l => ev_tg n l (j / 8)
      | none => none) = if j % 8 ^ (n + 1) = k % 8 ^ (n + 1) then v else (match ev_lg t (j % 8) with
      | some l => ev_tg n l (j / 8)
      | none => none) := by
  rw [ev_lu_at, ev_mod8 n j, ev_mod8 n k]
  by_cases a : j % 8 = k % 8
  · rw [if_pos a, a]
    show ev_tg n (ev_tS n ((ev_lg t (k % 8)).getD (ev_e0 n)) (k / 8) v) (j / 8) = _
    rw [ih _ (k / 8) v (j / 8)]
    by_cases q : j / 8 % 8 ^ n = k / 8 % 8 ^ n
    · rw [if_pos q, if_pos (by omega)]
    · rw [if_neg q, if_neg (by omega)]
      cases hl : ev_lg t (k % 8) with
      | none => exact ev_e0_none n _
      | some l => rfl
  · have hne : ¬ (j % 8 + 8 * (j / 8 % 8 ^ n) = k % 8 + 8 * (k / 8 % 8 ^ n)) := by omega
    rw [if_neg a, if_neg hne]
    by_cases b : j % 8 < k % 8 ∧ ev_lg t (j % 8) = none
    · rw [if_pos b, b.2]
      exact ev_e0_none n _
    · rw [if_neg b]
theorem ev_tg_S {γ : Type} : ∀ (n : Nat) (t : ev_T (Option γ) n) (k : Nat) (v : Option γ) (j : Nat), ev_tg n (ev_tS n t k v) j = if j % 8 ^ n = k % 8 ^ n then v else ev_tg n t j
  | 0, t, k, v, j => by
    have h : j % 8 ^ 0 = k % 8 ^ 0 := by simp [Nat.mod_one]
    rw [if_pos h]
    rfl
  | n + 1, t, k, v, j => ev_tg_S1 (ev_tg_S n) t k v j
/-- numbers are made whole before they go on -/
def ev_fN {β : Type} (n : Nat) (κ : Nat → β) : β := match n with
  | 0 => κ 0
  | m + 1 => κ (m + 1)
theorem ev_fN_eq {β : Type} (n : Nat) (κ : Nat → β) : ev_fN n κ = κ n := by cases n <;> rfl
def ev_fI {β : Type} (z : Int) (κ : Int → β) : β := match z with
  | .ofNat n => ev_fN n (fun m => κ (.ofNat m))
  | .negSucc n => ev_fN n (fun m => κ (.negSucc m))
theorem ev_fI_eq {β : Type} (z : Int) (κ : Int → β) : ev_fI z κ = κ z := by
  cases z with
  | ofNat n => exact ev_fN_eq n (fun m => κ (.ofNat m))
  | negSucc n => exact ev_fN_eq n (fun m => κ (.negSucc m))
theorem ev_lg_eq {α : Type} : ∀ (l : List α) (k : Nat), ev_lg l k = l[k]?
  | [], k => by simp [ev_lg_n, ev_lg_0, ev_lg_s]
  | a :: l, 0 => by simp [ev_lg_n, ev_lg_0, ev_lg_s]
  | a :: l, k + 1 => by
    show ev_lg l k = _
    rw [ev_lg_eq l k, List.getElem?_cons_succ]
noncomputable def ev_ls {α β : Type} (l : List α) : Nat → α → (List α → β) → β → β := List.rec (motive := fun _ => Nat → α → (List α → β) → β → β) (fun _ _ _ f => f) (fun a l ih k v κ f => Nat.rec (motive := fun _ => β) (κ (v :: l)) (fun k' _ => ih k' v (fun l' => κ (a :: l')) f) k) l
theorem ev_ls_n {α β : Type} (k : Nat) (v : α) (κ : List α → β) (f : β) : ev_ls [] k v κ f = f := rfl
theorem ev_ls_0 {α β : Type} (a : α) (l : List α) (v : α) (κ : List α → β) (f : β) : ev_ls (a :: l) 0 v κ f = κ (v :: l) := rfl
theorem ev_ls_eq {α β : Type} : ∀ (l : List α) (k : Nat) (v : α) (κ : List α → β) (f : β), ev_ls l k v κ f = if k < l.length then κ (l.set k v) else f
  | [], k, v, κ, f => by simp [ev_ls_n, ev_ls_0]
  | a :: l, 0, v, κ, f => by simp [ev_ls_n, ev_ls_0]
  | a :: l, k + 1, v, κ, f => by
    show ev_ls l k v (fun l' => κ (a :: l')) f = _
    rw [ev_ls_eq l k v _ f]
    simp
/-- how many cells there are; the cells that are known -/
abbrev ev_Hp : Type := Nat × ev_T (Option ev_C) 5
/-- the stack, the locals, the heap, cells and slots made by this frame so far -/
abbrev ev_S : Type := List ev_V × (List (Option ev_V) × (ev_Hp × (Nat × Nat)))
abbrev ev_I : Type := ev_S → Option (Nat × ev_S)
abbrev ev_int (z : Int) : ev_V := .inl (z, z)
abbrev ev_any : ev_V := .inl (-2147483648, 2147483647)
abbrev ev_null : ev_V := .inr (.inr none)
abbrev ev_ref (k : Nat) : ev_V := .inr (.inr (some (.inl k)))
abbrev ev_ext (k : Nat) : ev_V := .inr (.inr (some (.inr k)))
def ev_long (v : ev_V) : Bool := match v with
  | .inr (.inl _) => true
  | _ => false
/-- an int's interval to another's -/
def ev_lt (a b : Int × Int) : Option Bool := match a, b with
  | (a1, a2), (b1, b2) => cond (decide (a2 < b1)) (some true) (cond (decide (b2 ≤ a1)) (some false) none)
def ev_eq (a b : Int × Int) : Option Bool := match a, b with
  | (a1, a2), (b1, b2) => cond (decide (a2 < b1)) (some false) (cond (decide (b2 < a1)) (some false) (cond (decide (a1 = a2) && decide (b1 = b2)) (some true) none))
theorem ev_lt_t {a b : Int × Int} {x y : Int} (h : ev_lt a b = some true) (ha : x ≤ a.2) (hb : b.1 ≤ y) : x < y := by
  obtain ⟨a1, a2⟩ := a
  obtain ⟨b1, b2⟩ := b
  simp only [ev_lt] at h
  by_cases q : a2 < b1
  · dsimp only at ha hb
    omega
  · rw [decide_eq_false q] at h
    by_cases q2 : b2 ≤ a1
    · rw [decide_eq_true q2] at h
      cases h
    · rw [decide_eq_false q2] at h
      cases h
theorem ev_lt_f {a b : Int × Int} {x y : Int} (h : ev_lt a b = some false) (ha : a.1 ≤ x) (hb : y ≤ b.2) : ¬ x < y := by
  obtain ⟨a1, a2⟩ := a
  obtain ⟨b1, b2⟩ := b
  simp only [ev_lt] at h
  by_cases q : a2 < b1
  · rw [decide_eq_true q] at h
    cases h
  · rw [decide_eq_false q] at h
    by_cases q2 : b2 ≤ a1
    · dsimp only at ha hb
      omega
    · rw [decide_eq_false q2] at h
      cases h
theorem ev_eq_t {a b : Int × Int} {x y : Int} (h : ev_eq a b = some true) (ha : a.1 ≤ x) (ha2 : x ≤ a.2) (hb : b.1 ≤ y) (hb2 : y ≤ b.2) : x = y := by
  obtain ⟨a1, a2⟩ := a
  obtain ⟨b1, b2⟩ := b
  simp only [ev_eq] at h
  dsimp only at ha ha2 hb hb2
  by_cases q : a2 < b1
  · rw [decide_eq_true q] at h
    cases h
  · rw [decide_eq_false q] at h
    by_cases q2 : b2 < a1
    · rw [decide_eq_true q2] at h
      cases h
    · rw [decide_eq_false q2] at h
      by_cases q3 : a1 = a2
      · by_cases q4 : b1 = b2
        · omega
        · rw [decide_eq_false q4, decide_eq_true q3] at h
          cases h
      · rw [decide_eq_false q3] at h
        cases h
theorem ev_eq_f {a b : Int × Int} {x y : Int} (h : ev_eq a b = some false) (ha : a.1 ≤ x) (ha2 : x ≤ a.2) (hb : b.1 ≤ y) (hb2 : y ≤ b.2) : ¬ x = y := by
  obtain ⟨a1, a2⟩ := a
  obtain ⟨b1, b2⟩ := b
  simp only [ev_eq] at h
  dsimp only at ha ha2 hb hb2
  by_cases q : a2 < b1
  · omega
  · rw [decide_eq_false q] at h
    by_cases q2 : b2 < a1
    · omega
    · rw [decide_eq_false q2] at h
      by_cases q3 : a1 = a2
      · by_cases q4 : b1 = b2
        · rw [decide_eq_true q4, decide_eq_true q3] at h
          cases h
        · rw [decide_eq_false q4, decide_eq_true q3] at h
          cases h
      · rw [decide_eq_false q3] at h
        cases h
theorem ev_bt {a b : Bool} {α : Type} {x : Option α} {y : α} (h : cond (a && b) x none = some y) : a = true ∧ b = true ∧ x = some y := by
  cases a <;> cases b
  · cases h
  · cases h
  · cases h
  · exact ⟨rfl, rfl, h⟩
theorem ev_bt1 {a : Bool} {α : Type} {x : Option α} {y : α} (h : cond a x none = some y) : a = true ∧ x = some y := by
  cases a
  · cases h
  · exact ⟨rfl, h⟩
end KV01_base
