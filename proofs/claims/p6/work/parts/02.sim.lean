noncomputable section KV02_sim
/-! PICTURES AND WORLDS; what an instruction's function must keep (ev_Sim); the rows of the stack, the locals, the branches. -/
def ev_vR (ad : List Nat) (ex : Nat → Value) : ev_V → Value → Prop
  | .inl (lo, hi), w => ∃ x : Int32, w = .int x ∧ lo ≤ x.toInt ∧ x.toInt ≤ hi
  | .inr (.inl (lo, hi)), w => ∃ x : Int64, w = .long x ∧ lo ≤ x.toInt ∧ x.toInt ≤ hi
  | .inr (.inr none), w => w = .null
  | .inr (.inr (some (.inl k))), w => ∃ a, ad[k]? = some a ∧ w = .ref a
  | .inr (.inr (some (.inr j))), w => w = ex j ∧ (w = .null ∨ ∃ a, w = .ref a)
/-- 0: ints and what is narrower; 1: longs; 2: references -/
def ev_kd (ty : FieldType) : Nat := match ty with
  | .long => 1
  | .object _ => 2
  | .array _ => 2
  | .float => 3
  | .double => 3
  | _ => 0
def ev_aR (ad : List Nat) (ex : Nat → Value) (els : List ev_V) : Nat → ((Nat → Int32) ⊕ (Nat → Int64) ⊕ (Nat → UInt32) ⊕ (Nat → UInt64) ⊕ (Nat → Option Nat)) → Prop
  | 0, x => ∃ f, x = .inl f ∧ ∀ j v, els[j]? = some v → ev_vR ad ex v (.int (f j))
  | 1, x => ∃ f, x = .inr (.inl f) ∧ ∀ j v, els[j]? = some v → ev_vR ad ex v (.long (f j))
  | 2, x => ∃ f, x = .inr (.inr (.inr (.inr f))) ∧ ∀ j v, els[j]? = some v → ev_vR ad ex v (va_rf (f j))
  | _, _ => False
def ev_cR (tyOf : Nat → FieldType) (tys : List (ClassId × FieldType)) (ad : List Nat) (ex : Nat → Value) : ev_C → va_E → Prop
  | .inl (ci, fs), e => ∃ vs : List Value, e = .inr (ci, vs) ∧ vs.length = fs.length ∧ ∀ (k : Nat) (v : ev_V), fs[k]? = some v → ∃ w, vs[k]? = some w ∧ ev_vR ad ex v w
  | .inr (tc, n, els), e => ∃ cA x, e = .inl (cA, n, x) ∧ els.length = n ∧ n < 2147483648 ∧ (∃ t0 : Nat, tys[t0]? = some (cA, tyOf tc)) ∧ ev_aR ad ex els (ev_kd (tyOf tc)) x
def ev_hR (ad0 : List Nat) (tyOf : Nat → FieldType) (tys : List (ClassId × FieldType)) (ex : Nat → Value) (h : ev_Hp) (ws : va_W) : Prop :=
  ws.length = h.1 ∧ h.1 ≤ 32768 ∧ (∀ k a : Nat, ad0[k]? = some a → (ws.map Prod.fst)[k]? = some a) ∧ ∀ k, k < 32768 → ∀ q, ev_tg 5 h.2 k = some q → ∃ a e, ws[k]? = some (a, e) ∧ ev_cR tyOf tys (ws.map Prod.fst) ex q e
def ev_lR (ad : List Nat) (ex : Nat → Value) (L : List (Option ev_V)) (lv : List (Nat × Value)) : Prop := ∀ i v, L[i]? = some (some v) → ∃ w, (i, w) ∈ lv ∧ ev_vR ad ex v w
def ev_kR (ad : List Nat) (ex : Nat → Value) : List ev_V → List Value → Prop
  | [], st => st = []
  | v :: l, st => ∃ w r, st = w :: r ∧ ev_vR ad ex v w ∧ ev_kR ad ex l r
/-- from every state of the machine that the picture is of, the end is come to -/
def ev_G (p : Program) (l : Launch) (e : Env) (R : Room) (s : State) (m : MethodId) (args : Array Value) (below : List Frame) (meth : Method) (c : Code) (Q : State → Prop) (nL : Nat) (D : va_G) (cl : List vw_C) (A : Nat → Prop) (H0 : Heap) (ex : Nat → Value) (ad0 : List Nat) (tyOf : Nat → FieldType) (pc : Nat) (st : ev_S) : Prop :=
  ∀ (H : Heap) (locs : List Loc) (ls : Array Slot) (lv : List (Nat × Value)) (sv : List Value) (ws : va_W) (tys : List (ClassId × FieldType)),
    va_K D cl tys s → va_P D cl ws H → va_D A ws → va_S A H0 H locs → ev_hR ad0 tyOf tys ex st.2.2.1 ws → lv_has ls nL lv → st.2.1.length = nL → ev_lR (ws.map Prod.fst) ex st.2.1 lv → ev_kR (ws.map Prod.fst) ex st.1 sv →
    W p l e R s m args below meth c H locs st.2.2.2.1 st.2.2.2.2 Q (F0 m pc ls sv)
/-- what an instruction's function must keep -/
def ev_Sim (p : Program) (l : Launch) (e : Env) (R : Room) (s : State) (m : MethodId) (args : Array Value) (below : List Frame) (meth : Method) (c : Code) (Q : State → Prop) (nL : Nat) (D : va_G) (cl : List vw_C) (A : Nat → Prop) (H0 : Heap) (ex : Nat → Value) (ad0 : List Nat) (tyOf : Nat → FieldType) (pc : Nat) (f : ev_I) : Prop :=
  ∀ (st : ev_S) (pc' : Nat) (st' : ev_S), f st = some (pc', st') → ev_G p l e R s m args below meth c Q nL D cl A H0 ex ad0 tyOf pc' st' → ev_G p l e R s m args below meth c Q nL D cl A H0 ex ad0 tyOf pc st
-- the instructions' functions
def ev_push (n : Nat) (v : ev_V) : ev_I := fun st => match st with
  | (stk, r) => some (n, (v :: stk, r))
def ev_iload (n i : Nat) : ev_I := fun st => match st with
  | (stk, L, r) => match ev_lg L i with
    | some (some (.inl v)) => some (n, (.inl v :: stk, L, r))
    | _ => none
def ev_lload (n i : Nat) : ev_I := fun st => match st with
  | (stk, L, r) => match ev_lg L i with
    | some (some (.inr (.inl v))) => some (n, (.inr (.inl v) :: stk, L, r))
    | _ => none
def ev_aload (n i : Nat) : ev_I := fun st => match st with
  | (stk, L, r) => match ev_lg L i with
    | some (some (.inr (.inr v))) => some (n, (.inr (.inr v) :: stk, L, r))
    | _ => none
/-- no long lies just ahead -/
def ev_free (L : List (Option ev_V)) (i : Nat) : Bool := match i with
  | 0 => true
  | j + 1 => match ev_lg L j with
    | some (some (.inr (.inl _))) => false
    | _ => true
def ev_istore (n i : Nat) : ev_I := fun st => match st with
  | (.inl v :: stk, L, r) => cond (ev_free L i) (ev_ls L i (some (.inl v)) (fun L' => some (n, (stk, L', r))) none) none
  | _ => none
def ev_astore (n i : Nat) : ev_I := fun st => match st with
  | (.inr (.inr v) :: stk, L, r) => cond (ev_free L i) (ev_ls L i (some (.inr (.inr v))) (fun L' => some (n, (stk, L', r))) none) none
  | _ => none
def ev_dup (n : Nat) : ev_I := fun st => match st with
  | (v :: stk, r) => cond (ev_long v) none (some (n, (v :: v :: stk, r)))
  | _ => none
def ev_pop (n : Nat) : ev_I := fun st => match st with
  | (v :: stk, r) => cond (ev_long v) none (some (n, (stk, r)))
  | _ => none
def ev_goto (t : Nat) : ev_I := fun st => some (t, st)
def ev_wr32 (z : Int) : Int := Int.bmod z 4294967296
def ev_iinc (n i : Nat) (d : Int) : ev_I := fun st => match st with
  | (stk, L, r) => match ev_lg L i with
    | some (some (.inl (lo, hi))) => cond (decide (lo = hi) && ev_free L i) (ev_fI (ev_wr32 (lo + d)) (fun z => ev_ls L i (some (.inl (z, z))) (fun L' => some (n, (stk, L', r))) none)) none
    | _ => none
/-- by what was found: on, or to t -/
def ev_to (n t : Nat) (b : Option Bool) (st : ev_S) : Option (Nat × ev_S) := match b with
  | some true => some (t, st)
  | some false => some (n, st)
  | none => none
def ev_not (b : Option Bool) : Option Bool := match b with
  | some true => some false
  | some false => some true
  | none => none
/-- 0 eq, 1 ne, 2 lt, 3 ge, 4 gt, 5 le: of a (below) and b (on top) -/
def ev_rel (k : Nat) (a b : Int × Int) : Option Bool := match k with
  | 0 => ev_eq a b
  | 1 => ev_not (ev_eq a b)
  | 2 => ev_lt a b
  | 3 => ev_not (ev_lt a b)
  | 4 => ev_lt b a
  | 5 => ev_not (ev_lt b a)
  | _ => none
def ev_icmp (k n t : Nat) : ev_I := fun st => match st with
  | (.inl b :: .inl a :: stk, r) => ev_to n t (ev_rel k a b) (stk, r)
  | _ => none
def ev_if (k n t : Nat) : ev_I := fun st => match st with
  | (.inl a :: stk, r) => ev_to n t (ev_rel k a (0, 0)) (stk, r)
  | _ => none
def ev_ifnull (n t : Nat) : ev_I := fun st => match st with
  | (.inr (.inr none) :: stk, r) => some (t, (stk, r))
  | (.inr (.inr (some (.inl _))) :: stk, r) => some (n, (stk, r))
  | _ => none
def ev_ifnonnull (n t : Nat) : ev_I := fun st => match st with
  | (.inr (.inr none) :: stk, r) => some (n, (stk, r))
  | (.inr (.inr (some (.inl _))) :: stk, r) => some (t, (stk, r))
  | _ => none
section EvA
variable {p : Program} {l : Launch} {e : Env} {R : Room} {s : State} {m : MethodId} {args : Array Value} {below : List Frame} {meth : Method} {c : Code} {Q : State → Prop} {nL : Nat} {D : va_G} {cl : List vw_C} {A : Nat → Prop} {H0 : Heap} {ex : Nat → Value} {ad0 : List Nat} {tyOf : Nat → FieldType}
variable {cc : ByteArray} {pc : Nat}
theorem ev_iconst_ok (hx : p.tables.exec = Jvm.exec) (hb : c.code = cc) {z : Int} {x : Int32} (hd : decode cc pc = .ok (.iconst z, 1)) (hv : Int32.ofInt z = x) (hz : x.toInt = z) : ev_Sim p l e R s m args below meth c Q nL D cl A H0 ex ad0 tyOf pc (ev_push (pc + 1) (ev_int z)) := by
  intro st pc' st' h g
  obtain ⟨stk, r⟩ := st
  cases h
  intro H locs ls lv sv ws tys hK hP hD hS hh hl hn hL hs
  exact lv_iconst hx hb hd hv (g H locs ls lv (.int x :: sv) ws tys hK hP hD hS hh hl hn hL ⟨_, _, rfl, ⟨x, rfl, by rw [hz]; exact Int.le_refl _, by rw [hz]; exact Int.le_refl _⟩, hs⟩)
theorem ev_bipush_ok (hx : p.tables.exec = Jvm.exec) (hb : c.code = cc) {z : Int} {x : Int32} (hd : decode cc pc = .ok (.bipush z, 2)) (hv : (Int8.ofInt z).toInt32 = x) (hz : x.toInt = z) : ev_Sim p l e R s m args below meth c Q nL D cl A H0 ex ad0 tyOf pc (ev_push (pc + 2) (ev_int z)) := by
  intro st pc' st' h g
  obtain ⟨stk, r⟩ := st
  cases h
  intro H locs ls lv sv ws tys hK hP hD hS hh hl hn hL hs
  exact lv_bipush hx hb hd hv (g H locs ls lv (.int x :: sv) ws tys hK hP hD hS hh hl hn hL ⟨_, _, rfl, ⟨x, rfl, by rw [hz]; exact Int.le_refl _, by rw [hz]; exact Int.le_refl _⟩, hs⟩)
theorem ev_sipush_ok (hx : p.tables.exec = Jvm.exec) (hb : c.code = cc) {z : Int} {x : Int32} (hd : decode cc pc = .ok (.sipush z, 3)) (hv : (Int16.ofInt z).toInt32 = x) (hz : x.toInt = z) : ev_Sim p l e R s m args below meth c Q nL D cl A H0 ex ad0 tyOf pc (ev_push (pc + 3) (ev_int z)) := by
  intro st pc' st' h g
  obtain ⟨stk, r⟩ := st
  cases h
  intro H locs ls lv sv ws tys hK hP hD hS hh hl hn hL hs
  exact lv_sipush hx hb hd hv (g H locs ls lv (.int x :: sv) ws tys hK hP hD hS hh hl hn hL ⟨_, _, rfl, ⟨x, rfl, by rw [hz]; exact Int.le_refl _, by rw [hz]; exact Int.le_refl _⟩, hs⟩)
theorem ev_ldc_ok (hx : p.tables.exec = Jvm.exec) (hb : c.code = cc) {own : String} {index : Nat} {z : Int} {x : Int32} (ho : s.vm.findClass own = some m.cls) (hc : (Jvm.Cond.constant own index x).before args s = true) (hd : decode cc pc = .ok (.ldc index, 2)) (hz : x.toInt = z) : ev_Sim p l e R s m args below meth c Q nL D cl A H0 ex ad0 tyOf pc (ev_push (pc + 2) (ev_int z)) := by
  intro st pc' st' h g
  obtain ⟨stk, r⟩ := st
  cases h
  intro H locs ls lv sv ws tys hK hP hD hS hh hl hn hL hs
  exact lv_ldc hx hb ho hc hd (g H locs ls lv (.int x :: sv) ws tys hK hP hD hS hh hl hn hL ⟨_, _, rfl, ⟨x, rfl, by rw [hz]; exact Int.le_refl _, by rw [hz]; exact Int.le_refl _⟩, hs⟩)
theorem ev_lconst_ok (hx : p.tables.exec = Jvm.exec) (hb : c.code = cc) {k : Fin 2} {z : Int} {x : Int64} (hd : decode cc pc = .ok (.lconst k, 1)) (hv : Int64.ofNat (k : Nat) = x) (hz : x.toInt = z) : ev_Sim p l e R s m args below meth c Q nL D cl A H0 ex ad0 tyOf pc (ev_push (pc + 1) (.inr (.inl (z, z)))) := by
  intro st pc' st' h g
  obtain ⟨stk, r⟩ := st
  cases h
  intro H locs ls lv sv ws tys hK hP hD hS hh hl hn hL hs
  exact lv_lconst hx hb hd hv (g H locs ls lv (.long x :: sv) ws tys hK hP hD hS hh hl hn hL ⟨_, _, rfl, ⟨x, rfl, by rw [hz]; exact Int.le_refl _, by rw [hz]; exact Int.le_refl _⟩, hs⟩)
theorem ev_ldc2_ok (hx : p.tables.exec = Jvm.exec) (hb : c.code = cc) {own : String} {index : Nat} {z : Int} {x : Int64} (ho : s.vm.findClass own = some m.cls) (hc : (Jvm.Cond.constantLong own index x).before args s = true) (hd : decode cc pc = .ok (.ldc2_w index, 3)) (hz : x.toInt = z) : ev_Sim p l e R s m args below meth c Q nL D cl A H0 ex ad0 tyOf pc (ev_push (pc + 3) (.inr (.inl (z, z)))) := by
  intro st pc' st' h g
  obtain ⟨stk, r⟩ := st
  cases h
  intro H locs ls lv sv ws tys hK hP hD hS hh hl hn hL hs
  exact lv_ldc2 hx hb ho hc hd (g H locs ls lv (.long x :: sv) ws tys hK hP hD hS hh hl hn hL ⟨_, _, rfl, ⟨x, rfl, by rw [hz]; exact Int.le_refl _, by rw [hz]; exact Int.le_refl _⟩, hs⟩)
theorem ev_null_ok (hx : p.tables.exec = Jvm.exec) (hb : c.code = cc) (hd : decode cc pc = .ok (.aconst_null, 1)) : ev_Sim p l e R s m args below meth c Q nL D cl A H0 ex ad0 tyOf pc (ev_push (pc + 1) ev_null) := by
  intro st pc' st' h g
  obtain ⟨stk, r⟩ := st
  cases h
  intro H locs ls lv sv ws tys hK hP hD hS hh hl hn hL hs
  exact lv_null hx hb hd (g H locs ls lv (.null :: sv) ws tys hK hP hD hS hh hl hn hL ⟨_, _, rfl, rfl, hs⟩)
theorem ev_at {ls : Array Slot} {lv : List (Nat × Value)} {i : Nat} {w : Value} (h : lv_has ls nL lv) (hw : (i, w) ∈ lv) : ls[i]? = some (.val w) := h.2.2 (i, w) hw
theorem ev_iload_i {st st' : ev_S} {n i pc' : Nat} (h : ev_iload n i st = some (pc', st')) : ∃ v, st.2.1[i]? = some (some (.inl v)) ∧ pc' = n ∧ st' = (.inl v :: st.1, st.2) := by
  obtain ⟨stk, L, r⟩ := st
  simp only [ev_iload, ev_lg_eq] at h
  split at h
  · next v hv => cases h; exact ⟨v, hv, rfl, rfl⟩
  · cases h
theorem ev_lload_i {st st' : ev_S} {n i pc' : Nat} (h : ev_lload n i st = some (pc', st')) : ∃ v, st.2.1[i]? = some (some (.inr (.inl v))) ∧ pc' = n ∧ st' = (.inr (.inl v) :: st.1, st.2) := by
  obtain ⟨stk, L, r⟩ := st
  simp only [ev_lload, ev_lg_eq] at h
  split at h
  · next v hv => cases h; exact ⟨v, hv, rfl, rfl⟩
  · cases h
theorem ev_aload_i {st st' : ev_S} {n i pc' : Nat} (h : ev_aload n i st = some (pc', st')) : ∃ v, st.2.1[i]? = some (some (.inr (.inr v))) ∧ pc' = n ∧ st' = (.inr (.inr v) :: st.1, st.2) := by
  obtain ⟨stk, L, r⟩ := st
  simp only [ev_aload, ev_lg_eq] at h
  split at h
  · next v hv => cases h; exact ⟨v, hv, rfl, rfl⟩
  · cases h
theorem ev_rf {ad : List Nat} {ex : Nat → Value} {v : Option (Nat ⊕ Nat)} {w : Value} (h : ev_vR ad ex (.inr (.inr v)) w) : (w = .null ∧ True) ∨ ∃ a, w = .ref a ∧ True := by
  match v, h with
  | none, h => exact Or.inl ⟨h, trivial⟩
  | some (.inl k), ⟨a, _, h⟩ => exact Or.inr ⟨a, h, trivial⟩
  | some (.inr j), ⟨_, h⟩ =>
    rcases h with h | ⟨a, h⟩
    · exact Or.inl ⟨h, trivial⟩
    · exact Or.inr ⟨a, h, trivial⟩
theorem ev_iload_n_ok (hx : p.tables.exec = Jvm.exec) (hb : c.code = cc) {k : Fin 4} {i : Nat} (hd : decode cc pc = .ok (.iload_n k, 1)) (hi : (k : Nat) = i) : ev_Sim p l e R s m args below meth c Q nL D cl A H0 ex ad0 tyOf pc (ev_iload (pc + 1) i) := by
  intro st pc' st' h g
  obtain ⟨⟨lo, hh1⟩, hv, rfl, rfl⟩ := ev_iload_i h
  intro H locs ls lv sv ws tys hK hP hD hS hh hl hn hL hs
  obtain ⟨w, hw, x, rfl, h1, h2⟩ := hL i _ hv
  exact lv_iload_n hx hb hd hi (ev_at hl hw) (g H locs ls lv (.int x :: sv) ws tys hK hP hD hS hh hl hn hL ⟨_, _, rfl, ⟨x, rfl, h1, h2⟩, hs⟩)
theorem ev_iload_ok (hx : p.tables.exec = Jvm.exec) (hb : c.code = cc) {i : Nat} (hd : decode cc pc = .ok (.iload i, 2)) : ev_Sim p l e R s m args below meth c Q nL D cl A H0 ex ad0 tyOf pc (ev_iload (pc + 2) i) := by
  intro st pc' st' h g
  obtain ⟨⟨lo, hh1⟩, hv, rfl, rfl⟩ := ev_iload_i h
  intro H locs ls lv sv ws tys hK hP hD hS hh hl hn hL hs
  obtain ⟨w, hw, x, rfl, h1, h2⟩ := hL i _ hv
  exact lv_iload hx hb hd (ev_at hl hw) (g H locs ls lv (.int x :: sv) ws tys hK hP hD hS hh hl hn hL ⟨_, _, rfl, ⟨x, rfl, h1, h2⟩, hs⟩)
theorem ev_lload_n_ok (hx : p.tables.exec = Jvm.exec) (hb : c.code = cc) {k : Fin 4} {i : Nat} (hd : decode cc pc = .ok (.lload_n k, 1)) (hi : (k : Nat) = i) : ev_Sim p l e R s m args below meth c Q nL D cl A H0 ex ad0 tyOf pc (ev_lload (pc + 1) i) := by
  intro st pc' st' h g
  obtain ⟨⟨lo, hh1⟩, hv, rfl, rfl⟩ := ev_lload_i h
  intro H locs ls lv sv ws tys hK hP hD hS hh hl hn hL hs
  obtain ⟨w, hw, x, rfl, h1, h2⟩ := hL i _ hv
  exact lv_lload_n hx hb hd hi (ev_at hl hw) (g H locs ls lv (.long x :: sv) ws tys hK hP hD hS hh hl hn hL ⟨_, _, rfl, ⟨x, rfl, h1, h2⟩, hs⟩)
theorem ev_aload_n_ok (hx : p.tables.exec = Jvm.exec) (hb : c.code = cc) {k : Fin 4} {i : Nat} (hd : decode cc pc = .ok (.aload_n k, 1)) (hi : (k : Nat) = i) : ev_Sim p l e R s m args below meth c Q nL D cl A H0 ex ad0 tyOf pc (ev_aload (pc + 1) i) := by
  intro st pc' st' h g
  obtain ⟨v, hv, rfl, rfl⟩ := ev_aload_i h
  intro H locs ls lv sv ws tys hK hP hD hS hh hl hn hL hs
  obtain ⟨w, hw, hr⟩ := hL i _ hv
  rcases ev_rf hr with ⟨rfl, -⟩ | ⟨a, rfl, -⟩
  · exact lv_aload_nN hx hb hd hi (ev_at hl hw) (g H locs ls lv (.null :: sv) ws tys hK hP hD hS hh hl hn hL ⟨_, _, rfl, hr, hs⟩)
  · exact lv_aload_n hx hb hd hi (ev_at hl hw) (g H locs ls lv (.ref a :: sv) ws tys hK hP hD hS hh hl hn hL ⟨_, _, rfl, hr, hs⟩)
theorem ev_aload_ok (hx : p.tables.exec = Jvm.exec) (hb : c.code = cc) {i : Nat} (hd : decode cc pc = .ok (.aload i, 2)) : ev_Sim p l e R s m args below meth c Q nL D cl A H0 ex ad0 tyOf pc (ev_aload (pc + 2) i) := by
  intro st pc' st' h g
  obtain ⟨v, hv, rfl, rfl⟩ := ev_aload_i h
  intro H locs ls lv sv ws tys hK hP hD hS hh hl hn hL hs
  obtain ⟨w, hw, hr⟩ := hL i _ hv
  rcases ev_rf hr with ⟨rfl, -⟩ | ⟨a, rfl, -⟩
  · exact lv_aloadN hx hb hd (ev_at hl hw) (g H locs ls lv (.null :: sv) ws tys hK hP hD hS hh hl hn hL ⟨_, _, rfl, hr, hs⟩)
  · exact lv_aload hx hb hd (ev_at hl hw) (g H locs ls lv (.ref a :: sv) ws tys hK hP hD hS hh hl hn hL ⟨_, _, rfl, hr, hs⟩)
theorem ev_goto_ok (hx : p.tables.exec = Jvm.exec) (hb : c.code = cc) {off : Int} {t : Nat} (hd : decode cc pc = .ok (.goto off, 3)) (ht : (pc : Int) + off = (t : Int)) : ev_Sim p l e R s m args below meth c Q nL D cl A H0 ex ad0 tyOf pc (ev_goto t) := by
  intro st pc' st' h g
  cases h
  intro H locs ls lv sv ws tys hK hP hD hS hh hl hn hL hs
  exact lv_goto hx hb hd ht (g H locs ls lv sv ws tys hK hP hD hS hh hl hn hL hs)
theorem ev_cat {ad : List Nat} {ex : Nat → Value} {v : ev_V} {w : Value} (h : ev_vR ad ex v w) (hv : ev_long v = false) : w.category = 1 := by
  match v, h, hv with
  | .inl (lo, hi), ⟨x, h, _⟩, _ => rw [h]; rfl
  | .inr (.inr none), h, _ => rw [show w = Value.null from h]; rfl
  | .inr (.inr (some (.inl k))), ⟨a, _, h⟩, _ => rw [h]; rfl
  | .inr (.inr (some (.inr j))), ⟨_, h⟩, _ =>
    rcases h with h | ⟨a, h⟩
    · rw [h]; rfl
    · rw [h]; rfl
theorem ev_dup_ok (hx : p.tables.exec = Jvm.exec) (hb : c.code = cc) (hd : decode cc pc = .ok (.dup, 1)) : ev_Sim p l e R s m args below meth c Q nL D cl A H0 ex ad0 tyOf pc (ev_dup (pc + 1)) := by
  intro st pc' st' h g
  obtain ⟨stk, r⟩ := st
  match stk, h with
  | v :: stk, h =>
    simp only [ev_dup] at h
    cases hv : ev_long v with
    | true => rw [hv] at h; cases h
    | false =>
      rw [hv] at h
      cases h
      intro H locs ls lv sv ws tys hK hP hD hS hh hl hn hL hs
      obtain ⟨w, q, rfl, hw, hq⟩ := hs
      exact lv_dup hx hb hd (ev_cat hw hv) (g H locs ls lv (w :: w :: q) ws tys hK hP hD hS hh hl hn hL ⟨_, _, rfl, hw, _, _, rfl, hw, hq⟩)
theorem ev_pop_ok (hx : p.tables.exec = Jvm.exec) (hb : c.code = cc) (hd : decode cc pc = .ok (.pop, 1)) : ev_Sim p l e R s m args below meth c Q nL D cl A H0 ex ad0 tyOf pc (ev_pop (pc + 1)) := by
  intro st pc' st' h g
  obtain ⟨stk, r⟩ := st
  match stk, h with
  | v :: stk, h =>
    simp only [ev_pop] at h
    cases hv : ev_long v with
    | true => rw [hv] at h; cases h
    | false =>
      rw [hv] at h
      cases h
      intro H locs ls lv sv ws tys hK hP hD hS hh hl hn hL hs
      obtain ⟨w, q, rfl, hw, hq⟩ := hs
      exact lv_pop hx hb hd (ev_cat hw hv) (g H locs ls lv q ws tys hK hP hD hS hh hl hn hL hq)
/-- the locals behind a store -/
theorem ev_lR_set {ad : List Nat} {L : List (Option ev_V)} {lv : List (Nat × Value)} {i : Nat} {v : ev_V} {w : Value} (h : ev_lR ad ex L lv) (hf : ev_free L i = true) (hw : ev_vR ad ex v w) : ev_lR ad ex (L.set i (some v)) ((i, w) :: lv.filter (fun q => !(q.1 == i) && !(q.1 + 1 == i && q.2.category == 2))) := by
  intro j u hj
  by_cases hij : i = j
  · subst hij
    have hlt : i < L.length := by
      have h1 := (List.getElem?_eq_some_iff.mp hj).1
      rwa [List.length_set] at h1
    rw [List.getElem?_set_self hlt] at hj
    cases hj
    exact ⟨w, List.mem_cons_self, hw⟩
  · rw [List.getElem?_set_ne hij] at hj
    obtain ⟨x, hx, hr⟩ := h j u hj
    refine ⟨x, List.mem_cons_of_mem _ (List.mem_filter.mpr ⟨hx, ?_⟩), hr⟩
    have h1 : (j == i) = false := by simpa using fun q => hij q.symm
    have h2 : (j + 1 == i && x.category == 2) = false := by
      cases hji : j + 1 == i with
      | false => rfl
      | true =>
        have e1 : j + 1 = i := by simpa using hji
        subst e1
        simp only [ev_free, ev_lg_eq, hj] at hf
        have hlong : ev_long u = false := by
          match u, hf with
          | .inl _, _ => rfl
          | .inr (.inr _), _ => rfl
        rw [ev_cat hr hlong]
        rfl
    simp only [h1, h2, Bool.not_false, Bool.and_self]
theorem ev_istore_i {st st' : ev_S} {n i pc' : Nat} (h : ev_istore n i st = some (pc', st')) : ∃ v stk, st.1 = .inl v :: stk ∧ ev_free st.2.1 i = true ∧ i < st.2.1.length ∧ pc' = n ∧ st' = (stk, st.2.1.set i (some (.inl v)), st.2.2) := by
  obtain ⟨stk, L, r⟩ := st
  match stk, h with
  | .inl v :: stk, h =>
    simp only [ev_istore] at h
    cases hf : ev_free L i with
    | false => rw [hf] at h; cases h
    | true =>
      rw [hf] at h
      simp only [cond_true, ev_ls_eq] at h
      by_cases hi : i < L.length
      · rw [if_pos hi] at h
        cases h
        exact ⟨v, stk, rfl, rfl, hi, rfl, rfl⟩
      · rw [if_neg hi] at h
        cases h
theorem ev_astore_i {st st' : ev_S} {n i pc' : Nat} (h : ev_astore n i st = some (pc', st')) : ∃ v stk, st.1 = .inr (.inr v) :: stk ∧ ev_free st.2.1 i = true ∧ i < st.2.1.length ∧ pc' = n ∧ st' = (stk, st.2.1.set i (some (.inr (.inr v))), st.2.2) := by
  obtain ⟨stk, L, r⟩ := st
  match stk, h with
  | .inr (.inr v) :: stk, h =>
    simp only [ev_astore] at h
    cases hf : ev_free L i with
    | false => rw [hf] at h; cases h
    | true =>
      rw [hf] at h
      simp only [cond_true, ev_ls_eq] at h
      by_cases hi : i < L.length
      · rw [if_pos hi] at h
        cases h
        exact ⟨v, stk, rfl, rfl, hi, rfl, rfl⟩
      · rw [if_neg hi] at h
        cases h
theorem ev_istore_n_ok (hx : p.tables.exec = Jvm.exec) (hb : c.code = cc) {k : Fin 4} {i : Nat} (hd : decode cc pc = .ok (.istore_n k, 1)) (hi : (k : Nat) = i) : ev_Sim p l e R s m args below meth c Q nL D cl A H0 ex ad0 tyOf pc (ev_istore (pc + 1) i) := by
  intro st pc' st' h g
  obtain ⟨v, stk, e1, hf, hlt, rfl, rfl⟩ := ev_istore_i h
  intro H locs ls lv sv ws tys hK hP hD hS hh hl hn hL hs
  rw [e1] at hs
  obtain ⟨w, q, rfl, ⟨x, rfl, h1, h2⟩, hq⟩ := hs
  exact lv_istore_n hx hb hd hi hl (by rw [← hn]; exact hlt) rfl (fun ls' hl' => g H locs ls' _ q ws tys hK hP hD hS hh hl' (by rw [List.length_set]; exact hn) (ev_lR_set hL hf ⟨x, rfl, h1, h2⟩) hq)
theorem ev_istore_ok (hx : p.tables.exec = Jvm.exec) (hb : c.code = cc) {i : Nat} (hd : decode cc pc = .ok (.istore i, 2)) : ev_Sim p l e R s m args below meth c Q nL D cl A H0 ex ad0 tyOf pc (ev_istore (pc + 2) i) := by
  intro st pc' st' h g
  obtain ⟨v, stk, e1, hf, hlt, rfl, rfl⟩ := ev_istore_i h
  intro H locs ls lv sv ws tys hK hP hD hS hh hl hn hL hs
  rw [e1] at hs
  obtain ⟨w, q, rfl, ⟨x, rfl, h1, h2⟩, hq⟩ := hs
  exact lv_istore hx hb hd hl (by rw [← hn]; exact hlt) rfl (fun ls' hl' => g H locs ls' _ q ws tys hK hP hD hS hh hl' (by rw [List.length_set]; exact hn) (ev_lR_set hL hf ⟨x, rfl, h1, h2⟩) hq)
theorem ev_astore_n_ok (hx : p.tables.exec = Jvm.exec) (hb : c.code = cc) {k : Fin 4} {i : Nat} (hd : decode cc pc = .ok (.astore_n k, 1)) (hi : (k : Nat) = i) : ev_Sim p l e R s m args below meth c Q nL D cl A H0 ex ad0 tyOf pc (ev_astore (pc + 1) i) := by
  intro st pc' st' h g
  obtain ⟨v, stk, e1, hf, hlt, rfl, rfl⟩ := ev_astore_i h
  intro H locs ls lv sv ws tys hK hP hD hS hh hl hn hL hs
  rw [e1] at hs
  obtain ⟨w, q, rfl, hw, hq⟩ := hs
  rcases ev_rf hw with ⟨rfl, -⟩ | ⟨a, rfl, -⟩
  · exact lv_astore_nN hx hb hd hi hl (by rw [← hn]; exact hlt) rfl (fun ls' hl' => g H locs ls' _ q ws tys hK hP hD hS hh hl' (by rw [List.length_set]; exact hn) (ev_lR_set hL hf hw) hq)
  · exact lv_astore_n hx hb hd hi hl (by rw [← hn]; exact hlt) rfl (fun ls' hl' => g H locs ls' _ q ws tys hK hP hD hS hh hl' (by rw [List.length_set]; exact hn) (ev_lR_set hL hf hw) hq)
theorem ev_astore_ok (hx : p.tables.exec = Jvm.exec) (hb : c.code = cc) {i : Nat} (hd : decode cc pc = .ok (.astore i, 2)) : ev_Sim p l e R s m args below meth c Q nL D cl A H0 ex ad0 tyOf pc (ev_astore (pc + 2) i) := by
  intro st pc' st' h g
  obtain ⟨v, stk, e1, hf, hlt, rfl, rfl⟩ := ev_astore_i h
  intro H locs ls lv sv ws tys hK hP hD hS hh hl hn hL hs
  rw [e1] at hs
  obtain ⟨w, q, rfl, hw, hq⟩ := hs
  rcases ev_rf hw with ⟨rfl, -⟩ | ⟨a, rfl, -⟩
  · exact lv_astoreN hx hb hd hl (by rw [← hn]; exact hlt) rfl (fun ls' hl' => g H locs ls' _ q ws tys hK hP hD hS hh hl' (by rw [List.length_set]; exact hn) (ev_lR_set hL hf hw) hq)
  · exact lv_astore hx hb hd hl (by rw [← hn]; exact hlt) rfl (fun ls' hl' => g H locs ls' _ q ws tys hK hP hD hS hh hl' (by rw [List.length_set]; exact hn) (ev_lR_set hL hf hw) hq)
end EvA
end KV02_sim
