noncomputable section KV06_call
/-! RUNS AND CALLS. -/
/-- on till a place that stops: what stops there, where, and the picture -/
noncomputable def ev_run (code : Nat → Option (ev_I ⊕ Nat)) (n : Nat) : Nat → ev_S → Option (Nat × Nat × ev_S) := Nat.rec (motive := fun _ => Nat → ev_S → Option (Nat × Nat × ev_S)) (fun _ _ => none) (fun _ ih pc st => match code pc with
    | some (.inl f) => (match f st with
      | some (pc', st') => ih pc' st'
      | none => none)
    | some (.inr k) => some (k, pc, st)
    | none => none) n
theorem ev_run_s (code : Nat → Option (ev_I ⊕ Nat)) (n pc : Nat) (st : ev_S) : ev_run code (n + 1) pc st = match code pc with
    | some (.inl f) => (match f st with
      | some (pc', st') => ev_run code n pc' st'
      | none => none)
    | some (.inr k) => some (k, pc, st)
    | none => none := rfl
/-- a method's evaluator: its number, its arguments, the heap -/
abbrev ev_E : Type := Nat → List ev_V → ev_Hp → Option (Option ev_V × ev_Hp)
def ev_pops : Nat → List ev_V → List ev_V → Option (List ev_V × List ev_V)
  | 0, r, acc => some (acc, r)
  | n + 1, r, acc => match r with
    | v :: r' => ev_pops n r' (v :: acc)
    | [] => none
theorem ev_pops_i : ∀ (n : Nat) (r acc as rest : List ev_V), ev_pops n r acc = some (as, rest) → ∃ bs : List ev_V, bs.length = n ∧ r = bs ++ rest ∧ as = bs.reverse ++ acc
  | 0, r, acc, as, rest, h => by cases h; exact ⟨[], rfl, rfl, rfl⟩
  | n + 1, v :: r', acc, as, rest, h => by
    obtain ⟨bs, h1, h2, h3⟩ := ev_pops_i n r' (v :: acc) as rest h
    exact ⟨v :: bs, by rw [List.length_cons, h1], by rw [h2]; rfl, by rw [h3, List.reverse_cons, List.append_assoc]; rfl⟩
def ev_cats : List ev_V → Nat
  | [] => 0
  | v :: l => cond (ev_long v) (2 + ev_cats l) (1 + ev_cats l)
theorem ev_cats_ok {ad : List Nat} {ex : Nat → Value} : ∀ {l : List ev_V} {sv : List Value}, ev_kR ad ex l sv → (sv.map fun v => v.category).sum = ev_cats l
  | [], sv, h => by rw [show sv = [] from h]; rfl
  | v :: l, sv, ⟨w, r, h1, h2, h3⟩ => by
    have ih := ev_cats_ok h3
    rw [h1, List.map_cons, List.sum_cons, ih]
    show w.category + ev_cats l = cond (ev_long v) (2 + ev_cats l) (1 + ev_cats l)
    cases hv : ev_long v with
    | false => rw [ev_cat h2 hv]; rfl
    | true =>
      match v, h2, hv with
      | .inr (.inl (lo, hi)), ⟨x, h4, _⟩, _ => rw [h4]; rfl
theorem ev_kR_app {ad : List Nat} {ex : Nat → Value} : ∀ {l1 l2 : List ev_V} {sv : List Value}, ev_kR ad ex (l1 ++ l2) sv → ∃ s1 s2, sv = s1 ++ s2 ∧ s1.length = l1.length ∧ ev_kR ad ex l1 s1 ∧ ev_kR ad ex l2 s2
  | [], l2, sv, h => ⟨[], sv, rfl, rfl, rfl, h⟩
  | v :: l1, l2, sv, ⟨w, r, h1, h2, h3⟩ => by
    obtain ⟨s1, s2, e1, e2, h4, h5⟩ := ev_kR_app h3
    exact ⟨w :: s1, s2, by rw [h1, e1]; rfl, by rw [List.length_cons, List.length_cons, e2], ⟨w, s1, rfl, h2, h4⟩, h5⟩
theorem ev_kR_cat {ad : List Nat} {ex : Nat → Value} : ∀ {l1 l2 : List ev_V} {s1 s2 : List Value}, ev_kR ad ex l1 s1 → ev_kR ad ex l2 s2 → ev_kR ad ex (l1 ++ l2) (s1 ++ s2)
  | [], _, s1, s2, h1, h2 => by rw [show s1 = [] from h1]; exact h2
  | _ :: _, _, _, s2, ⟨w, r, h1, h2, h3⟩, h4 => ⟨w, r ++ s2, by rw [h1]; rfl, h2, ev_kR_cat h3 h4⟩
theorem ev_kR_rev {ad : List Nat} {ex : Nat → Value} : ∀ {l : List ev_V} {sv : List Value}, ev_kR ad ex l sv → ev_kR ad ex l.reverse sv.reverse
  | [], sv, h => by rw [show sv = [] from h]; exact rfl
  | v :: l, sv, ⟨w, r, h1, h2, h3⟩ => by
    rw [h1, List.reverse_cons, List.reverse_cons]
    exact ev_kR_cat (ev_kR_rev h3) ⟨w, [], rfl, h2, rfl⟩
theorem ev_kR_len {ad : List Nat} {ex : Nat → Value} : ∀ {l : List ev_V} {sv : List Value}, ev_kR ad ex l sv → sv.length = l.length
  | [], sv, h => by rw [show sv = [] from h]; rfl
  | v :: l, sv, ⟨w, r, h1, h2, h3⟩ => by rw [h1, List.length_cons, List.length_cons, ev_kR_len h3]
/-- the receiver is a cell of that class -/
def ev_recv (i : Nat) (h : ev_Hp) (as : List ev_V) : Bool := match as with
  | .inr (.inr (some (.inl k))) :: _ => (match ev_tg 5 h.2 k with
    | some (.inl (i', _)) => Nat.beq i' i
    | _ => false)
  | _ => false
def ev_rc1 (_ : ev_Hp) (_ : List ev_V) : Bool := true
def ev_call (n mid na cmx smx cm sm : Nat) (rc : ev_Hp → List ev_V → Bool) (E : ev_E) : ev_I := fun st => match st with
  | (stk, L, h, (c1, n1)) => match ev_pops na stk [] with
    | some (as, rest) => (match E mid as h with
      | some (rv, h') => cond (Nat.ble (ev_cats rest) 8 && (Nat.ble (c1 + cmx) cm && (Nat.ble (n1 + smx) sm && rc h as))) (ev_fN (c1 + cmx) (fun c' => ev_fN (n1 + smx) (fun n' => some (n, ((match rv with
          | none => rest
          | some v => v :: rest), L, h', (c', n')))))) none
      | none => none)
    | none => none
def ev_oR (ad : List Nat) (ex : Nat → Value) : Option ev_V → Option Value → Prop
  | none, o => o = none
  | some v, o => ∃ w, o = some w ∧ ev_vR ad ex v w
/-- what holds where a method begins -/
def ev_Pr (D : va_G) (cl : List vw_C) (A : Nat → Prop) (ex : Nat → Value) (tyOf : Nat → FieldType) (XT : State → Prop) (h : ev_Hp) (w : va_W) (tys : List (ClassId × FieldType)) (U : State) : Prop :=
  va_P D cl w U.heap ∧ va_K D cl tys U ∧ va_D A w ∧ (∀ q, U.heap.size ≤ q → A q) ∧ ev_hR [] tyOf tys ex h w ∧ XT U
/-- .. and where it has returned -/
def ev_Qo (D : va_G) (cl : List vw_C) (A : Nat → Prop) (ex : Nat → Value) (tyOf : Nat → FieldType) (ad : List Nat) (rv : Option ev_V) (h' : ev_Hp) : Array Value → State → Outcome → State → Prop := fun _ st oc t =>
  (∃ (ov : Option Value) (w' : va_W) (tys' : List (ClassId × FieldType)), oc = .returned ov ∧ ev_oR (w'.map Prod.fst) ex rv ov ∧ va_P D cl w' t.heap ∧ va_K D cl tys' t ∧ va_D A w' ∧ ev_hR ad tyOf tys' ex h' w') ∧ va_F A st t
/-- every run of the evaluator is a run of the machine -/
def ev_Snd (l : Launch) (D : va_G) (cl : List vw_C) (A : Nat → Prop) (ex : Nat → Value) (tyOf : Nat → FieldType) (XT : State → Prop) (yOf : Nat → MethodName) (wsOf : Nat → List Cond) (cmOf smOf : Nat → Nat) (d : Nat) (E : ev_E) : Prop :=
  ∀ (mid : Nat) (as : List ev_V) (h : ev_Hp) (rv : Option ev_V) (h' : ev_Hp), E mid as h = some (rv, h') → ∀ (w : va_W) (tys : List (ClassId × FieldType)) (vals : List Value), ev_kR (w.map Prod.fst) ex as vals →
    Met l (yOf mid) (wsOf mid) ({ frames := d, cells := cmOf mid, slots := smOf mid, locals := 64 * d } : Room) (va_Pc vals (ev_Pr D cl A ex tyOf XT h w tys)) (ev_Qo D cl A ex tyOf (w.map Prod.fst) rv h') (cmOf mid) (smOf mid) A
theorem ev_call_i {st st' : ev_S} {n mid na cmx smx cm sm pc' : Nat} {rc : ev_Hp → List ev_V → Bool} {E : ev_E} (h : ev_call n mid na cmx smx cm sm rc E st = some (pc', st')) : ∃ bs rest rv h', st.1 = bs ++ rest ∧ bs.length = na ∧ E mid bs.reverse st.2.2.1 = some (rv, h') ∧ ev_cats rest ≤ 8 ∧ st.2.2.2.1 + cmx ≤ cm ∧ st.2.2.2.2 + smx ≤ sm ∧ rc st.2.2.1 bs.reverse = true ∧ pc' = n ∧ st' = ((match rv with
    | none => rest
    | some v => v :: rest), st.2.1, h', (st.2.2.2.1 + cmx, st.2.2.2.2 + smx)) := by
  obtain ⟨stk, L, hp, c1, n1⟩ := st
  simp only [ev_call, ev_fN_eq] at h
  split at h
  · next as rest hp2 =>
    obtain ⟨bs, e1, e2, e3⟩ := ev_pops_i _ _ _ _ _ hp2
    rw [List.append_nil] at e3
    subst e3
    split at h
    · next rv h' hE =>
      obtain ⟨a1, h9⟩ := ev_bt1 h
      clear h
      rw [Bool.and_eq_true, Bool.and_eq_true, Bool.and_eq_true] at a1
      obtain ⟨a1, a2, a3, a4⟩ := a1
      cases h9
      exact ⟨bs, rest, rv, h', e2, e1, hE, Nat.le_of_ble_eq_true a1, Nat.le_of_ble_eq_true a2, Nat.le_of_ble_eq_true a3, a4, rfl, rfl⟩
    · cases h
  · cases h
theorem ev_hR_ad {ad0 ad : List Nat} {tyOf : Nat → FieldType} {tys : List (ClassId × FieldType)} {ex : Nat → Value} {h : ev_Hp} {ws : va_W} (hm : ∀ k a : Nat, ad0[k]? = some a → ad[k]? = some a) (hh : ev_hR ad tyOf tys ex h ws) : ev_hR ad0 tyOf tys ex h ws :=
  ⟨hh.1, hh.2.1, fun k a z => hh.2.2.1 k a (hm k a z), hh.2.2.2⟩
section EvF
variable {p : Program} {l : Launch} {e : Env} {R : Room} {s : State} {m : MethodId} {args : Array Value} {below : List Frame} {meth : Method} {c : Code} {Q : State → Prop} {nL : Nat} {D : va_G} {cl : List vw_C} {A : Nat → Prop} {H0 : Heap} {ex : Nat → Value} {ad0 : List Nat} {tyOf : Nat → FieldType}
variable {cc : ByteArray} {pc : Nat}
theorem ev_run_ok {code : Nat → Option (ev_I ⊕ Nat)} (hsim : ∀ pc f, code pc = some (.inl f) → ev_Sim p l e R s m args below meth c Q nL D cl A H0 ex ad0 tyOf pc f) : ∀ (n pc : Nat) (st : ev_S) (k pc1 : Nat) (st1 : ev_S), ev_run code n pc st = some (k, pc1, st1) → code pc1 = some (.inr k) ∧ (ev_G p l e R s m args below meth c Q nL D cl A H0 ex ad0 tyOf pc1 st1 → ev_G p l e R s m args below meth c Q nL D cl A H0 ex ad0 tyOf pc st)
  | 0, _, _, _, _, _, h => by cases h
  | n + 1, pc, st, k, pc1, st1, h => by
    simp only [ev_run_s] at h
    split at h
    · next f hf =>
      split at h
      · next pc' st' hs =>
        obtain ⟨h1, h2⟩ := ev_run_ok hsim n pc' st' k pc1 st1 h
        exact ⟨h1, fun g => hsim pc f hf st pc' st' hs (h2 g)⟩
      · cases h
    · next k' hk =>
      cases h
      exact ⟨hk, fun g => g⟩
    · cases h
/-- behind a call -/
theorem ev_after {H : Heap} {locs : List Loc} {cells slots mc ms : Nat} {ls : Array Slot} {st0 rest : List Value} {a : Array Value} {ad : List Nat} {rv : Option ev_V} {h' : ev_Hp} (hr : va_Run p l e R s m args below meth c H locs cells slots mc ms (F0 m pc ls st0) rest (ev_Qo D cl A ex tyOf ad rv h' a) A) (hS : va_S A H0 H locs)
    (kk : ∀ (ov : Option Value) (w' : va_W) (tys' : List (ClassId × FieldType)) (H1 : Heap) (locs1 : List Loc), ev_oR (w'.map Prod.fst) ex rv ov → va_P D cl w' H1 → va_K D cl tys' s → va_D A w' → ev_hR ad tyOf tys' ex h' w' → va_S A H0 H1 locs1 → W p l e R s m args below meth c H1 locs1 (cells + mc) (slots + ms) Q (F0 m (pc + 3) ls (ov.toList ++ rest))) : W p l e R s m args below meth c H locs cells slots Q (F0 m pc ls st0) := by
  intro T hT X
  obtain ⟨v, st₀, t, T', L, h0, X', hL, e1, e2, ⟨⟨ov, w', tys', hv, ho, hP, hK, hD, hh⟩, hz, hk⟩, st⟩ := hr T hT X
  cases hv
  rw [h0] at hz hk
  have hal : t.vm.Alike s.vm := by
    have h1 : s.vm.Alike t.vm := by rw [← e2]; exact X'.warmed.alike
    exact h1.symm
  obtain ⟨t2, a1, b1⟩ := kk v w' tys' T'.heap (locs ++ L) ho (by rw [e1]; exact hP) (va_K.moved hal hK) hD hh
    ⟨Nat.le_trans hS.1 (by rw [e1]; exact hz), fun q h1 h2 => by rw [e1, hk q (Nat.lt_of_lt_of_le h1 hS.1) h2]; exact hS.2.1 q h1 h2, fun q hq => by
      rcases List.mem_append.mp hq with h | h
      · exact hS.2.2 q h
      · exact hL q h⟩ T' rfl X'
  exact ⟨t2, st t2 a1, b1⟩
variable {XT : State → Prop} {yOf : Nat → MethodName} {wsOf : Nat → List Cond} {cmOf smOf : Nat → Nat} {d : Nat}
/-- a call of any kind: 'run' is the kit's row for it -/
theorem ev_call_gen {mid na cm sm : Nat} {rc : ev_Hp → List ev_V → Bool} {E : ev_E} (hE : ev_Snd l D cl A ex tyOf XT yOf wsOf cmOf smOf d E) (hcm : cm ≤ R.cells) (hsm : sm ≤ R.slots)
    (run : ∀ (H : Heap) (locs : List Loc) (cells slots : Nat) (ls : Array Slot) (w : va_W) (tys : List (ClassId × FieldType)) (h h' : ev_Hp) (rv : Option ev_V) (as : List ev_V) (vals rest : List Value), va_K D cl tys s → va_P D cl w H → va_D A w → va_S A H0 H locs → ev_hR ad0 tyOf tys ex h w → ls.size = nL → ev_kR (w.map Prod.fst) ex as vals → vals.length = na → rc h as = true → (rest.map fun v => v.category).sum ≤ 8 → cells + cmOf mid ≤ R.cells → slots + smOf mid ≤ R.slots →
      Met l (yOf mid) (wsOf mid) ({ frames := d, cells := cmOf mid, slots := smOf mid, locals := 64 * d } : Room) (va_Pc vals (ev_Pr D cl A ex tyOf XT h w tys)) (ev_Qo D cl A ex tyOf (w.map Prod.fst) rv h') (cmOf mid) (smOf mid) A →
      va_Run p l e R s m args below meth c H locs cells slots (cmOf mid) (smOf mid) (F0 m pc ls (vals.reverse ++ rest)) rest (ev_Qo D cl A ex tyOf (w.map Prod.fst) rv h' vals.toArray) A) : ev_Sim p l e R s m args below meth c Q nL D cl A H0 ex ad0 tyOf pc (ev_call (pc + 3) mid na (cmOf mid) (smOf mid) cm sm rc E) := by
  intro st pc' st' h g
  obtain ⟨bs, rest, rv, h', e1, e2, hEm, f1, f2, f3, f4, rfl, rfl⟩ := ev_call_i h
  intro H locs ls lv sv ws tys hK hP hD hS hh hl hn hL hs
  rw [e1] at hs
  obtain ⟨s1, s2, rfl, hlen, hs1, hs2⟩ := ev_kR_app hs
  have hv := ev_kR_rev hs1
  have hmet := hE mid bs.reverse st.2.2.1 rv h' hEm ws tys s1.reverse hv
  have hr := run H locs st.2.2.2.1 st.2.2.2.2 ls ws tys st.2.2.1 h' rv bs.reverse s1.reverse s2 hK hP hD hS hh hl.1 hv (by rw [List.length_reverse, hlen, e2]) f4 (by rw [ev_cats_ok hs2]; exact f1) (Nat.le_trans f2 hcm) (Nat.le_trans f3 hsm) hmet
  rw [List.reverse_reverse] at hr
  refine ev_after hr hS (fun ov w' tys' H1 locs1 ho hP1 hK1 hD1 hh1 hS1 => ?_)
  have hm : ∀ k a : Nat, (ws.map Prod.fst)[k]? = some a → (w'.map Prod.fst)[k]? = some a := hh1.2.2.1
  refine g H1 locs1 ls lv (ov.toList ++ s2) w' tys' hK1 hP1 hD1 hS1 (ev_hR_ad hh.2.2.1 hh1) hl hn (ev_lR_mono hm hL) ?_
  match rv, ho with
  | none, ho => rw [show ov = none from ho]; exact ev_kR_mono hm hs2
  | some v, ⟨w, ho, hw⟩ => rw [ho]; exact ⟨w, s2, rfl, hw, ev_kR_mono hm hs2⟩
/-- what is said of things outside holds wherever nothing outside the world has changed -/
def ev_Xok (A : Nat → Prop) (XT : State → Prop) : Prop := ∀ s U : State, s.WarmedH U.vm → s.heap.size ≤ U.heap.size → (∀ q : Nat, q < s.heap.size → ¬ A q → U.heap[q]? = s.heap[q]?) → XT s → XT U
theorem ev_blind (hX : ev_Xok A XT) {vals : List Value} {h : ev_Hp} {w : va_W} {tys : List (ClassId × FieldType)} : FrameBlind (va_Pc vals (ev_Pr D cl A ex tyOf XT h w tys)) := by
  intro a U g mk q
  obtain ⟨q0, q1, q2, q3, q4, q5, q6⟩ := q
  exact ⟨q0, q1, va_K.moved (u := U) (U := U.calling g mk a) (Vm.Alike.refl U.vm) q2, q3, q4, q5, hX U (U.calling g mk a) (State.WarmedH.refl U) (Nat.le_refl _) (fun _ _ _ => rfl) q6⟩
/-- the callee's start, from the caller's -/
theorem ev_start (hX : ev_Xok A XT) (hXs : XT s) (hA : ∀ q, s.heap.size ≤ q → A q) {H : Heap} {locs : List Loc} {w : va_W} {tys : List (ClassId × FieldType)} {h : ev_Hp} {vals : List Value} (hK : va_K D cl tys s) (hP : va_P D cl w H) (hD : va_D A w) (hS : va_S A s.heap H locs) (hh : ev_hR ad0 tyOf tys ex h w) : ∀ U : State, U.heap = H → s.WarmedH U.vm → va_Pc vals (ev_Pr D cl A ex tyOf XT h w tys) vals.toArray U := by
  intro U hU hW
  refine ⟨rfl, by rw [hU]; exact hP, va_K.moved hW.alike hK, hD, fun q hq => hA q (Nat.le_trans hS.1 (by rw [← hU]; exact hq)), ev_hR_ad (fun k a z => by simp at z) hh, hX s U hW (by rw [hU]; exact hS.1) (fun q h1 h2 => by rw [hU]; exact hS.2.1 q h1 h2) hXs⟩
end EvF
end KV06_call
