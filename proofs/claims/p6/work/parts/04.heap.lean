noncomputable section KV04_heap
/-! CELLS: fields, new objects, arrays of ints, longs and references. -/
theorem ev_vR_mono {ad ad' : List Nat} {ex : Nat → Value} (hm : ∀ k a : Nat, ad[k]? = some a → ad'[k]? = some a) {v : ev_V} {w : Value} (h : ev_vR ad ex v w) : ev_vR ad' ex v w := by
  match v, h with
  | .inl (lo, hi), h => exact h
  | .inr (.inl (lo, hi)), h => exact h
  | .inr (.inr none), h => exact h
  | .inr (.inr (some (.inl k))), ⟨a, h1, h2⟩ => exact ⟨a, hm k a h1, h2⟩
  | .inr (.inr (some (.inr j))), h => exact h
theorem ev_lR_mono {ad ad' : List Nat} {ex : Nat → Value} (hm : ∀ k a : Nat, ad[k]? = some a → ad'[k]? = some a) {L : List (Option ev_V)} {lv : List (Nat × Value)} (h : ev_lR ad ex L lv) : ev_lR ad' ex L lv := by
  intro i v hi
  obtain ⟨w, h1, h2⟩ := h i v hi
  exact ⟨w, h1, ev_vR_mono hm h2⟩
theorem ev_kR_mono {ad ad' : List Nat} {ex : Nat → Value} (hm : ∀ k a : Nat, ad[k]? = some a → ad'[k]? = some a) : ∀ {l : List ev_V} {sv : List Value}, ev_kR ad ex l sv → ev_kR ad' ex l sv
  | [], _, h => h
  | _ :: _, _, ⟨w, r, h1, h2, h3⟩ => ⟨w, r, h1, ev_vR_mono hm h2, ev_kR_mono hm h3⟩
theorem ev_aR_mono {ad ad' : List Nat} {ex : Nat → Value} (hm : ∀ k a : Nat, ad[k]? = some a → ad'[k]? = some a) {els : List ev_V} {kd : Nat} {x : (Nat → Int32) ⊕ (Nat → Int64) ⊕ (Nat → UInt32) ⊕ (Nat → UInt64) ⊕ (Nat → Option Nat)} (h : ev_aR ad ex els kd x) : ev_aR ad' ex els kd x := by
  match kd, h with
  | 0, ⟨f, h1, h2⟩ => exact ⟨f, h1, fun j v hj => ev_vR_mono hm (h2 j v hj)⟩
  | 1, ⟨f, h1, h2⟩ => exact ⟨f, h1, fun j v hj => ev_vR_mono hm (h2 j v hj)⟩
  | 2, ⟨f, h1, h2⟩ => exact ⟨f, h1, fun j v hj => ev_vR_mono hm (h2 j v hj)⟩
theorem ev_cR_mono {tyOf : Nat → FieldType} {tys tys' : List (ClassId × FieldType)} {ad ad' : List Nat} {ex : Nat → Value} (ht : ∀ (k : Nat) (q : ClassId × FieldType), tys[k]? = some q → tys'[k]? = some q) (hm : ∀ k a : Nat, ad[k]? = some a → ad'[k]? = some a) {q : ev_C} {e : va_E} (h : ev_cR tyOf tys ad ex q e) : ev_cR tyOf tys' ad' ex q e := by
  match q, h with
  | .inl (ci, fs), ⟨vs, h1, h2, h3⟩ =>
    refine ⟨vs, h1, h2, fun k v hk => ?_⟩
    obtain ⟨w, h4, h5⟩ := h3 k v hk
    exact ⟨w, h4, ev_vR_mono hm h5⟩
  | .inr (tc, n, els), ⟨cA, x, h1, h2, h3, ⟨t0, h4⟩, h5⟩ => exact ⟨cA, x, h1, h2, h3, ⟨t0, ht _ _ h4⟩, ev_aR_mono hm h5⟩
theorem ev_fst_set {ws : va_W} {k a : Nat} {e e' : va_E} (h : ws[k]? = some (a, e)) : (ws.set k (a, e')).map Prod.fst = ws.map Prod.fst := by
  apply List.ext_getElem?
  intro i
  rw [List.getElem?_map, List.getElem?_map]
  by_cases hi : k = i
  · subst hi
    rw [List.getElem?_set_self (List.getElem?_eq_some_iff.mp h).1, h]
    rfl
  · rw [List.getElem?_set_ne hi]
theorem ev_fst_push {ws : va_W} {a : Nat} {e : va_E} : ∀ k b : Nat, (ws.map Prod.fst)[k]? = some b → ((ws ++ [(a, e)]).map Prod.fst)[k]? = some b := by
  intro k b h
  rw [List.map_append, List.getElem?_append_left (List.getElem?_eq_some_iff.mp h).1]
  exact h
theorem ev_app {α : Type} {l : List α} {x : α} : ∀ (k : Nat) (q : α), l[k]? = some q → (l ++ [x])[k]? = some q := by
  intro k q h
  rw [List.getElem?_append_left (List.getElem?_eq_some_iff.mp h).1]
  exact h
theorem ev_hR_set {ad0 : List Nat} {tyOf : Nat → FieldType} {tys : List (ClassId × FieldType)} {ex : Nat → Value} {h : ev_Hp} {ws : va_W} {k a : Nat} {e e' : va_E} {q' : ev_C} (hh : ev_hR ad0 tyOf tys ex h ws) (hw : ws[k]? = some (a, e)) (hr : ev_cR tyOf tys (ws.map Prod.fst) ex q' e') : ev_hR ad0 tyOf tys ex (h.1, ev_tS 5 h.2 k (some q')) (ws.set k (a, e')) := by
  obtain ⟨h1, h2, h0, h3⟩ := hh
  have hlt : k < ws.length := (List.getElem?_eq_some_iff.mp hw).1
  have hk : k < 32768 := by omega
  refine ⟨by rw [List.length_set]; exact h1, h2, by rw [ev_fst_set hw]; exact h0, fun j hj q hq => ?_⟩
  rw [ev_fst_set hw]
  dsimp only at hq
  rw [ev_tg_S] at hq
  by_cases hjk : j = k
  · subst hjk
    rw [if_pos rfl] at hq
    cases hq
    exact ⟨a, e', List.getElem?_set_self hlt, hr⟩
  · have hne : ¬ j % 8 ^ 5 = k % 8 ^ 5 := by
      rw [show (8 : Nat) ^ 5 = 32768 from rfl, Nat.mod_eq_of_lt hj, Nat.mod_eq_of_lt hk]
      exact hjk
    rw [if_neg hne] at hq
    obtain ⟨b, e2, h4, h5⟩ := h3 j hj q hq
    exact ⟨b, e2, by rw [List.getElem?_set_ne (fun z => hjk z.symm)]; exact h4, h5⟩
theorem ev_hR_push {ad0 : List Nat} {tyOf : Nat → FieldType} {tys tys' : List (ClassId × FieldType)} {ex : Nat → Value} {h : ev_Hp} {ws : va_W} {a : Nat} {e : va_E} {q' : ev_C} (hh : ev_hR ad0 tyOf tys ex h ws) (hlt : h.1 < 32768) (ht : ∀ (k : Nat) (q : ClassId × FieldType), tys[k]? = some q → tys'[k]? = some q) (hr : ev_cR tyOf tys' ((ws ++ [(a, e)]).map Prod.fst) ex q' e) : ev_hR ad0 tyOf tys' ex (h.1 + 1, ev_tS 5 h.2 h.1 (some q')) (ws ++ [(a, e)]) := by
  obtain ⟨h1, h2, h0, h3⟩ := hh
  refine ⟨by rw [List.length_append, h1]; rfl, hlt, fun i b hb => ev_fst_push i b (h0 i b hb), fun j hj q hq => ?_⟩
  dsimp only at hq
  rw [ev_tg_S] at hq
  by_cases hjk : j = h.1
  · subst hjk
    rw [if_pos rfl] at hq
    cases hq
    exact ⟨a, e, by rw [← h1, List.getElem?_append_right (Nat.le_refl _), Nat.sub_self]; rfl, hr⟩
  · have hne : ¬ j % 8 ^ 5 = h.1 % 8 ^ 5 := by
      rw [show (8 : Nat) ^ 5 = 32768 from rfl, Nat.mod_eq_of_lt hj, Nat.mod_eq_of_lt hlt]
      exact hjk
    rw [if_neg hne] at hq
    obtain ⟨b, e2, h4, h5⟩ := h3 j hj q hq
    exact ⟨b, e2, ev_app _ _ h4, ev_cR_mono ht ev_fst_push h5⟩
/-- a place of the world -/
theorem ev_place {ws : va_W} {k : Nat} {ex : Nat → Value} {w : Value} (h : ev_vR (ws.map Prod.fst) ex (.inr (.inr (some (.inl k)))) w) : ∃ a e, ws[k]? = some (a, e) ∧ w = .ref a := by
  obtain ⟨a, h1, h2⟩ := h
  rw [List.getElem?_map] at h1
  cases hk : ws[k]? with
  | none => rw [hk] at h1; cases h1
  | some q =>
    rw [hk] at h1
    obtain ⟨b, e⟩ := q
    cases h1
    exact ⟨b, e, rfl, h2⟩
/-- what a known cell at a place is -/
theorem ev_cell {ad0 : List Nat} {tyOf : Nat → FieldType} {tys : List (ClassId × FieldType)} {ex : Nat → Value} {h : ev_Hp} {ws : va_W} {k a : Nat} {e : va_E} {q : ev_C} (hh : ev_hR ad0 tyOf tys ex h ws) (hw : ws[k]? = some (a, e)) (hq : ev_tg 5 h.2 k = some q) : ev_cR tyOf tys (ws.map Prod.fst) ex q e := by
  obtain ⟨h1, h2, h0, h3⟩ := hh
  have hlt : k < ws.length := (List.getElem?_eq_some_iff.mp hw).1
  obtain ⟨b, e2, h4, h5⟩ := h3 k (by omega) q hq
  rw [hw] at h4
  cases h4
  exact h5
def ev_get (n ci j : Nat) : ev_I := fun st => match st with
  | (.inr (.inr (some (.inl k))) :: stk, L, h, r) => match ev_tg 5 h.2 k with
    | some (.inl (ci', fs)) => match ev_lg fs j with
      | some v => cond (Nat.beq ci' ci) (some (n, (v :: stk, L, h, r))) none
      | none => none
    | _ => none
  | _ => none
/-- which values a field takes: 0 an int, 1 a boolean, 4 a long, 5 a reference -/
def ev_fit (tk : Nat) (v : ev_V) : Bool := match tk, v with
  | 0, .inl _ => true
  | 1, .inl (lo, hi) => decide (0 ≤ lo) && decide (hi ≤ 1)
  | 4, .inr (.inl _) => true
  | 5, .inr (.inr _) => true
  | _, _ => false
def ev_tk (ty : FieldType) : Nat := match ty with
  | .int => 0
  | .boolean => 1
  | .long => 4
  | .object _ => 5
  | .array _ => 5
  | _ => 9
theorem ev_fit_ok {ad : List Nat} {ex : Nat → Value} {ty : FieldType} {v : ev_V} {w : Value} (hf : ev_fit (ev_tk ty) v = true) (h : ev_vR ad ex v w) : narrow ty w = w ∧ fits ty w = true := by
  match ty, v, hf, h with
  | .int, .inl (lo, hi), _, ⟨x, h, _⟩ => rw [h]; exact ⟨rfl, rfl⟩
  | .boolean, .inl (lo, hi), hf, ⟨x, h, h1, h2⟩ =>
    have hf2 : (decide (0 ≤ lo) && decide (hi ≤ 1)) = true := hf
    rw [Bool.and_eq_true, decide_eq_true_eq, decide_eq_true_eq] at hf2
    have h3 : x = 0 ∨ x = 1 := by
      by_cases q : x.toInt = 0
      · exact Or.inl (Int32.toInt_inj.mp q)
      · exact Or.inr (Int32.toInt_inj.mp (show x.toInt = 1 by omega))
    rw [h]
    rcases h3 with rfl | rfl
    · exact ⟨by decide, by decide⟩
    · exact ⟨by decide, by decide⟩
  | .long, .inr (.inl (lo, hi)), _, ⟨x, h, _⟩ => rw [h]; exact ⟨rfl, rfl⟩
  | .object C, .inr (.inr u), _, h =>
    rcases ev_rf h with ⟨rfl, -⟩ | ⟨a, rfl, -⟩
    · exact ⟨rfl, rfl⟩
    · exact ⟨rfl, rfl⟩
  | .array t, .inr (.inr u), _, h =>
    rcases ev_rf h with ⟨rfl, -⟩ | ⟨a, rfl, -⟩
    · exact ⟨rfl, rfl⟩
    · exact ⟨rfl, rfl⟩
def ev_put (n ci j tk : Nat) : ev_I := fun st => match st with
  | (v :: .inr (.inr (some (.inl k))) :: stk, L, h, r) => match ev_tg 5 h.2 k with
    | some (.inl (ci', fs)) => cond (Nat.beq ci' ci && ev_fit tk v) (ev_ls fs j v (fun fs' => ev_ts 5 h.2 k (some (.inl (ci', fs'))) (fun t' => some (n, (stk, L, (h.1, t'), r)))) none) none
    | _ => none
  | _ => none
/-- a new object, its fields as fs has them; no more than cm cells of sm slots in this frame -/
def ev_new (n ci N cm sm : Nat) (fs : List ev_V) : ev_I := fun st => match st with
  | (stk, L, (sz, t), (c1, n1)) => cond (Nat.blt sz 32768 && (Nat.ble (c1 + 1) cm && Nat.ble (n1 + N) sm)) (ev_ts 5 t sz (some (.inl (ci, fs))) (fun t' => ev_fN (sz + 1) (fun sz' => ev_fN (c1 + 1) (fun c' => ev_fN (n1 + N) (fun n' => some (n, (ev_ref sz :: stk, L, (sz', t'), (c', n')))))))) none
theorem ev_get_i {st st' : ev_S} {n ci j pc' : Nat} (h : ev_get n ci j st = some (pc', st')) : ∃ k stk fs v, st.1 = .inr (.inr (some (.inl k))) :: stk ∧ ev_tg 5 st.2.2.1.2 k = some (.inl (ci, fs)) ∧ fs[j]? = some v ∧ pc' = n ∧ st' = (v :: stk, st.2) := by
  obtain ⟨stk, L, hp, r⟩ := st
  match stk, h with
  | .inr (.inr (some (.inl k))) :: stk, h =>
    simp only [ev_get, ev_lg_eq] at h
    split at h
    · next ci' fs hq =>
      split at h
      · next v hv =>
        obtain ⟨hc, h2⟩ := ev_bt1 h
        have e1 : ci' = ci := Nat.eq_of_beq_eq_true hc
        subst e1
        cases h2
        exact ⟨k, stk, fs, v, rfl, hq, hv, rfl, rfl⟩
      · cases h
    · cases h
theorem ev_put_i {st st' : ev_S} {n ci j tk pc' : Nat} (h : ev_put n ci j tk st = some (pc', st')) : ∃ v k stk fs, st.1 = v :: .inr (.inr (some (.inl k))) :: stk ∧ ev_tg 5 st.2.2.1.2 k = some (.inl (ci, fs)) ∧ ev_fit tk v = true ∧ j < fs.length ∧ pc' = n ∧ st' = (stk, st.2.1, (st.2.2.1.1, ev_tS 5 st.2.2.1.2 k (some (.inl (ci, fs.set j v)))), st.2.2.2) := by
  obtain ⟨stk, L, hp, r⟩ := st
  match stk, h with
  | v :: .inr (.inr (some (.inl k))) :: stk, h =>
    simp only [ev_put] at h
    split at h
    · next ci' fs hq =>
      cases hc : Nat.beq ci' ci with
      | false => rw [hc] at h; cases h
      | true =>
        have e1 : ci' = ci := Nat.eq_of_beq_eq_true hc
        subst e1
        cases hf : ev_fit tk v with
        | false => rw [hc, hf] at h; cases h
        | true =>
          rw [hc, hf] at h
          simp only [Bool.and_self, cond_true, ev_ls_eq, ev_ts_eq] at h
          by_cases hj : j < fs.length
          · rw [if_pos hj] at h
            cases h
            exact ⟨v, k, stk, fs, rfl, hq, hf, hj, rfl, rfl⟩
          · rw [if_neg hj] at h
            cases h
    · cases h
theorem ev_new_i {st st' : ev_S} {n ci N cm sm pc' : Nat} {fs : List ev_V} (h : ev_new n ci N cm sm fs st = some (pc', st')) : st.2.2.1.1 < 32768 ∧ st.2.2.2.1 + 1 ≤ cm ∧ st.2.2.2.2 + N ≤ sm ∧ pc' = n ∧ st' = (ev_ref st.2.2.1.1 :: st.1, st.2.1, (st.2.2.1.1 + 1, ev_tS 5 st.2.2.1.2 st.2.2.1.1 (some (.inl (ci, fs)))), (st.2.2.2.1 + 1, st.2.2.2.2 + N)) := by
  obtain ⟨stk, L, ⟨sz, t⟩, c1, n1⟩ := st
  simp only [ev_new, ev_ts_eq, ev_fN_eq] at h
  cases h1 : Nat.blt sz 32768 with
  | false => rw [h1] at h; cases h
  | true =>
    cases h2 : Nat.ble (c1 + 1) cm with
    | false => rw [h1, h2] at h; cases h
    | true =>
      cases h3 : Nat.ble (n1 + N) sm with
      | false => rw [h1, h2, h3] at h; cases h
      | true =>
        rw [h1, h2, h3] at h
        cases h
        exact ⟨Nat.le_of_ble_eq_true h1, Nat.le_of_ble_eq_true h2, Nat.le_of_ble_eq_true h3, rfl, rfl⟩
section EvC
variable {p : Program} {l : Launch} {e : Env} {R : Room} {s : State} {m : MethodId} {args : Array Value} {below : List Frame} {meth : Method} {c : Code} {Q : State → Prop} {nL : Nat} {D : va_G} {cl : List vw_C} {A : Nat → Prop} {H0 : Heap} {ex : Nat → Value} {ad0 : List Nat} {tyOf : Nat → FieldType}
variable {cc : ByteArray} {pc : Nat}
theorem ev_get_ok (hx : p.tables.exec = Jvm.exec) (hb : c.code = cc) {own ref C : String} {T : u_T} {N ci index j : Nat} {Ts : List Cond} (hts : ∀ w ∈ Ts, w.before args s = true) (hin : ∀ w ∈ u_ws C T N, w ∈ Ts) (ho : s.vm.findClass own = some m.cls) (hc : cl[ci]? = some (C, T, N)) (hj : j < N) (hlink : (Cond.fieldLink own index ref (T j).2.1 (T j).2.2.1).before args s = true) (hsame : ∀ x, s.fieldFound? (T j).1 (T j).2.1 (T j).2.2.1 = some x → s.fieldFound? ref (T j).2.1 (T j).2.2.1 = some x) (hd : decode cc pc = .ok (.getfield index, 3)) : ev_Sim p l e R s m args below meth c Q nL D cl A H0 ex ad0 tyOf pc (ev_get (pc + 3) ci j) := by
  intro st pc' st' h g
  obtain ⟨k, stk, fs, v, e1, hq, hv, rfl, rfl⟩ := ev_get_i h
  intro H locs ls lv sv ws tys hK hP hD hS hh hl hn hL hs
  rw [e1] at hs
  obtain ⟨w, r, rfl, hw, hr⟩ := hs
  obtain ⟨a, e2, hwk, rfl⟩ := ev_place hw
  obtain ⟨vs, rfl, hlen, hf⟩ := ev_cell hh hwk hq
  obtain ⟨u, hu, hur⟩ := hf j v hv
  exact va_get hx hb hts hin ho hK hP k hwk hc j hj hlink hsame hu hd (g H locs ls lv (u :: r) ws tys hK hP hD hS hh hl hn hL ⟨_, _, rfl, hur, hr⟩)
theorem ev_getN_ok (hx : p.tables.exec = Jvm.exec) (hb : c.code = cc) {own ref C host : String} {T : u_T} {N ci index j : Nat} {Ts : List Cond} (hts : ∀ w ∈ Ts, w.before args s = true) (hin : ∀ w ∈ u_ws C T N, w ∈ Ts) (ho : s.vm.findClass own = some m.cls) (hc : cl[ci]? = some (C, T, N)) (hj : j < N) (hlink : (Cond.fieldLinkNest own index ref (T j).2.1 (T j).2.2.1 host).before args s = true) (hsame : ∀ x, s.fieldFound? (T j).1 (T j).2.1 (T j).2.2.1 = some x → s.fieldFound? ref (T j).2.1 (T j).2.2.1 = some x) (hd : decode cc pc = .ok (.getfield index, 3)) : ev_Sim p l e R s m args below meth c Q nL D cl A H0 ex ad0 tyOf pc (ev_get (pc + 3) ci j) := by
  intro st pc' st' h g
  obtain ⟨k, stk, fs, v, e1, hq, hv, rfl, rfl⟩ := ev_get_i h
  intro H locs ls lv sv ws tys hK hP hD hS hh hl hn hL hs
  rw [e1] at hs
  obtain ⟨w, r, rfl, hw, hr⟩ := hs
  obtain ⟨a, e2, hwk, rfl⟩ := ev_place hw
  obtain ⟨vs, rfl, hlen, hf⟩ := ev_cell hh hwk hq
  obtain ⟨u, hu, hur⟩ := hf j v hv
  exact va_getN hx hb hts hin ho hK hP k hwk hc j hj hlink hsame hu hd (g H locs ls lv (u :: r) ws tys hK hP hD hS hh hl hn hL ⟨_, _, rfl, hur, hr⟩)
/-- the world behind a field's new value -/
theorem ev_put_h {tys : List (ClassId × FieldType)} {h : ev_Hp} {ws : va_W} {k a ci j : Nat} {fs : List ev_V} {vs : List Value} {v : ev_V} {w : Value} (hh : ev_hR ad0 tyOf tys ex h ws) (hwk : ws[k]? = some (a, .inr (ci, vs))) (hlen : vs.length = fs.length) (hf : ∀ (k : Nat) (v : ev_V), fs[k]? = some v → ∃ w, vs[k]? = some w ∧ ev_vR (ws.map Prod.fst) ex v w) (hj : j < fs.length) (hv : ev_vR (ws.map Prod.fst) ex v w) : ev_hR ad0 tyOf tys ex (h.1, ev_tS 5 h.2 k (some (.inl (ci, fs.set j v)))) (ws.set k (a, .inr (ci, vs.set j w))) := by
  refine ev_hR_set hh hwk ⟨vs.set j w, rfl, by rw [List.length_set, List.length_set]; exact hlen, fun i u hi => ?_⟩
  by_cases hij : j = i
  · subst hij
    rw [List.getElem?_set_self hj] at hi
    cases hi
    exact ⟨w, List.getElem?_set_self (by rw [hlen]; exact hj), hv⟩
  · rw [List.getElem?_set_ne hij] at hi
    obtain ⟨x, h1, h2⟩ := hf i u hi
    exact ⟨x, by rw [List.getElem?_set_ne hij]; exact h1, h2⟩
theorem ev_put_ok (hx : p.tables.exec = Jvm.exec) (hb : c.code = cc) {own ref C : String} {T : u_T} {N ci index j tk : Nat} {Ts : List Cond} (hts : ∀ w ∈ Ts, w.before args s = true) (hin : ∀ w ∈ u_ws C T N, w ∈ Ts) (ty0 : Nat → FieldType) (hty : ∀ k, k < N → parseFieldDescriptor (T k).2.2.1 = some (ty0 k)) (hnm : ∀ a, a < N → ∀ b, b < N → a ≠ b → (T a).2.1 ≠ (T b).2.1) (ho : s.vm.findClass own = some m.cls) (hc : cl[ci]? = some (C, T, N)) (hj : j < N) (hlink : (Cond.fieldLink own index ref (T j).2.1 (T j).2.2.1).before args s = true) (hsame : ∀ x, s.fieldFound? (T j).1 (T j).2.1 (T j).2.2.1 = some x → s.fieldFound? ref (T j).2.1 (T j).2.2.1 = some x) (hfin : (T j).2.2.2 = false) (htk : ev_tk (ty0 j) = tk) (hd : decode cc pc = .ok (.putfield index, 3)) : ev_Sim p l e R s m args below meth c Q nL D cl A H0 ex ad0 tyOf pc (ev_put (pc + 3) ci j tk) := by
  intro st pc' st' h g
  obtain ⟨v, k, stk, fs, e1, hq, hfit, hjl, rfl, rfl⟩ := ev_put_i h
  intro H locs ls lv sv ws tys hK hP hD hS hh hl hn hL hs
  rw [e1] at hs
  obtain ⟨w, r, rfl, hw, w2, r2, rfl, hw2, hr⟩ := hs
  obtain ⟨a, e2, hwk, rfl⟩ := ev_place hw2
  obtain ⟨vs, rfl, hlen, hf⟩ := ev_cell hh hwk hq
  subst htk
  obtain ⟨f1, f2⟩ := ev_fit_ok hfit hw
  refine va_put hx hb hts hin ty0 hty hnm ho hK hP hD hS k hwk hc j hj hlink hsame hfin (hty j hj) f1 f2 (by rw [hlen]; exact hjl) hd (fun H1 locs1 hP1 hD1 hS1 => ?_)
  have ea := ev_fst_set (e' := .inr (ci, vs.set j w)) hwk
  exact g H1 locs1 ls lv r2 _ tys hK hP1 hD1 hS1 (ev_put_h hh hwk hlen hf hjl hw) hl hn (by rw [ea]; exact hL) (by rw [ea]; exact hr)
theorem ev_putN_ok (hx : p.tables.exec = Jvm.exec) (hb : c.code = cc) {own ref C host : String} {T : u_T} {N ci index j tk : Nat} {Ts : List Cond} (hts : ∀ w ∈ Ts, w.before args s = true) (hin : ∀ w ∈ u_ws C T N, w ∈ Ts) (ty0 : Nat → FieldType) (hty : ∀ k, k < N → parseFieldDescriptor (T k).2.2.1 = some (ty0 k)) (hnm : ∀ a, a < N → ∀ b, b < N → a ≠ b → (T a).2.1 ≠ (T b).2.1) (ho : s.vm.findClass own = some m.cls) (hc : cl[ci]? = some (C, T, N)) (hj : j < N) (hlink : (Cond.fieldLinkNest own index ref (T j).2.1 (T j).2.2.1 host).before args s = true) (hsame : ∀ x, s.fieldFound? (T j).1 (T j).2.1 (T j).2.2.1 = some x → s.fieldFound? ref (T j).2.1 (T j).2.2.1 = some x) (hfin : (T j).2.2.2 = false) (htk : ev_tk (ty0 j) = tk) (hd : decode cc pc = .ok (.putfield index, 3)) : ev_Sim p l e R s m args below meth c Q nL D cl A H0 ex ad0 tyOf pc (ev_put (pc + 3) ci j tk) := by
  intro st pc' st' h g
  obtain ⟨v, k, stk, fs, e1, hq, hfit, hjl, rfl, rfl⟩ := ev_put_i h
  intro H locs ls lv sv ws tys hK hP hD hS hh hl hn hL hs
  rw [e1] at hs
  obtain ⟨w, r, rfl, hw, w2, r2, rfl, hw2, hr⟩ := hs
  obtain ⟨a, e2, hwk, rfl⟩ := ev_place hw2
  obtain ⟨vs, rfl, hlen, hf⟩ := ev_cell hh hwk hq
  subst htk
  obtain ⟨f1, f2⟩ := ev_fit_ok hfit hw
  refine va_putN hx hb hts hin ty0 hty hnm ho hK hP hD hS k hwk hc j hj hlink hsame hfin (hty j hj) f1 f2 (by rw [hlen]; exact hjl) hd (fun H1 locs1 hP1 hD1 hS1 => ?_)
  have ea := ev_fst_set (e' := .inr (ci, vs.set j w)) hwk
  exact g H1 locs1 ls lv r2 _ tys hK hP1 hD1 hS1 (ev_put_h hh hwk hlen hf hjl hw) hl hn (by rw [ea]; exact hL) (by rw [ea]; exact hr)
theorem ev_putF_ok (hx : p.tables.exec = Jvm.exec) (hb : c.code = cc) {own ref C : String} {T : u_T} {N ci index j tk : Nat} {Ts : List Cond} (hts : ∀ w ∈ Ts, w.before args s = true) (hin : ∀ w ∈ u_ws C T N, w ∈ Ts) (ty0 : Nat → FieldType) (hty : ∀ k, k < N → parseFieldDescriptor (T k).2.2.1 = some (ty0 k)) (hnm : ∀ a, a < N → ∀ b, b < N → a ≠ b → (T a).2.1 ≠ (T b).2.1) (ho : s.vm.findClass own = some m.cls) (hc : cl[ci]? = some (C, T, N)) (hj : j < N) (hlink : (Cond.fieldLink own index ref (T j).2.1 (T j).2.2.1).before args s = true) (hsame : ∀ x, s.fieldFound? (T j).1 (T j).2.1 (T j).2.2.1 = some x → s.fieldFound? ref (T j).2.1 (T j).2.2.1 = some x) (hfin : (T j).2.2.2 = true) (hini : meth.name = "<init>") (hdecl : (T j).1 = own) (htk : ev_tk (ty0 j) = tk) (hd : decode cc pc = .ok (.putfield index, 3)) : ev_Sim p l e R s m args below meth c Q nL D cl A H0 ex ad0 tyOf pc (ev_put (pc + 3) ci j tk) := by
  intro st pc' st' h g
  obtain ⟨v, k, stk, fs, e1, hq, hfit, hjl, rfl, rfl⟩ := ev_put_i h
  intro H locs ls lv sv ws tys hK hP hD hS hh hl hn hL hs
  rw [e1] at hs
  obtain ⟨w, r, rfl, hw, w2, r2, rfl, hw2, hr⟩ := hs
  obtain ⟨a, e2, hwk, rfl⟩ := ev_place hw2
  obtain ⟨vs, rfl, hlen, hf⟩ := ev_cell hh hwk hq
  subst htk
  obtain ⟨f1, f2⟩ := ev_fit_ok hfit hw
  refine va_putF hx hb hts hin ty0 hty hnm ho hK hP hD hS k hwk hc j hj hlink hsame hfin hini hdecl (hty j hj) f1 f2 (by rw [hlen]; exact hjl) hd (fun H1 locs1 hP1 hD1 hS1 => ?_)
  have ea := ev_fst_set (e' := .inr (ci, vs.set j w)) hwk
  exact g H1 locs1 ls lv r2 _ tys hK hP1 hD1 hS1 (ev_put_h hh hwk hlen hf hjl hw) hl hn (by rw [ea]; exact hL) (by rw [ea]; exact hr)
/-- a new object's fields, as values -/
def ev_dv (ty : FieldType) : ev_V := match ev_tk ty with
  | 4 => .inr (.inl (0, 0))
  | 5 => ev_null
  | _ => ev_int 0
theorem ev_dv_ok {ad : List Nat} {ex : Nat → Value} {ty : FieldType} (h : ev_tk ty < 9) : ev_vR ad ex (ev_dv ty) (defaultValue ty) := by
  match ty, h with
  | .int, _ => exact ⟨0, rfl, Int.le_refl _, Int.le_refl _⟩
  | .boolean, _ => exact ⟨0, rfl, Int.le_refl _, Int.le_refl _⟩
  | .long, _ => exact ⟨0, rfl, Int.le_refl _, Int.le_refl _⟩
  | .object C, _ => exact rfl
  | .array t, _ => exact rfl
theorem ev_new_ok (hx : p.tables.exec = Jvm.exec) (hb : c.code = cc) {own C : String} {T : u_T} {N ci index cm sm : Nat} {Ts : List Cond} (hts : ∀ w ∈ Ts, w.before args s = true) (hin : ∀ w ∈ u_ws C T N, w ∈ Ts) (ty0 : Nat → FieldType) (hty : ∀ k, k < N → parseFieldDescriptor (T k).2.2.1 = some (ty0 k)) (ho : s.vm.findClass own = some m.cls) (hcl : (Cond.classLink own index C).before args s = true) (hinst : (Cond.instantiable C N).before args s = true) (hini : (Cond.initialized C).before args s = true) (hA : ∀ q, H0.size ≤ q → A q) (hc : cl[ci]? = some (C, T, N)) (h9 : ∀ k, k < N → ev_tk (ty0 k) < 9) (hcm : cm ≤ R.cells) (hsm : sm ≤ R.slots) (hd : decode cc pc = .ok (.new index, 3)) : ev_Sim p l e R s m args below meth c Q nL D cl A H0 ex ad0 tyOf pc (ev_new (pc + 3) ci N cm sm ((List.range N).map (fun k => ev_dv (ty0 k)))) := by
  intro st pc' st' h g
  obtain ⟨h1, h2, h3, rfl, rfl⟩ := ev_new_i h
  intro H locs ls lv sv ws tys hK hP hD hS hh hl hn hL hs
  have hfs : ∀ j, j < N → defaultValue (ty0 j) = vp_V ((List.range N).map (fun k => defaultValue (ty0 k))) j := by
    intro j hj
    simp [vp_V, List.getD_eq_getElem?_getD, hj]
  refine va_new hx hb hts hin ty0 hty ho hcl hinst hini hK hP hD hS hA hc hfs (Nat.le_trans h2 hcm) (Nat.le_trans h3 hsm) hd (fun q H1 hP1 hD1 hS1 => ?_)
  refine g H1 locs ls lv (.ref q :: sv) _ tys hK hP1 hD1 hS1 (ev_hR_push hh h1 (fun _ _ z => z) ⟨_, rfl, by simp, fun k v hk => ?_⟩) hl hn (ev_lR_mono ev_fst_push hL) ⟨_, _, rfl, ⟨q, ?_, rfl⟩, ev_kR_mono ev_fst_push hs⟩
  · rw [List.getElem?_map] at hk ⊢
    cases hkr : (List.range N)[k]? with
    | none => rw [hkr] at hk; cases hk
    | some i =>
      rw [hkr] at hk
      cases hk
      have hi : i < N := List.mem_range.mp (List.mem_of_getElem? hkr)
      exact ⟨_, rfl, ev_dv_ok (h9 i hi)⟩
  · rw [List.map_append, ← hh.1, List.getElem?_append_right (by rw [List.length_map]; exact Nat.le_refl _), List.length_map, Nat.sub_self]
    rfl
end EvC
end KV04_heap
