noncomputable section KV51_pos
/-! PICTURES COMPARED; POSITIONS OF A RUN THAT GOES DOWN. -/
def ev_veq (a b : ev_V) : Bool := match a, b with
  | .inl (a1, a2), .inl (b1, b2) => decide (a1 = b1) && decide (a2 = b2)
  | .inr (.inl (a1, a2)), .inr (.inl (b1, b2)) => decide (a1 = b1) && decide (a2 = b2)
  | .inr (.inr none), .inr (.inr none) => true
  | .inr (.inr (some (.inl i))), .inr (.inr (some (.inl j))) => Nat.beq i j
  | .inr (.inr (some (.inr i))), .inr (.inr (some (.inr j))) => Nat.beq i j
  | _, _ => false
def ev_leq : List ev_V → List ev_V → Bool
  | [], m => (match m with
    | [] => true
    | _ :: _ => false)
  | a :: l, m => (match m with
    | [] => false
    | b :: m => cond (ev_veq a b) (ev_leq l m) false)
def ev_ceq (a b : Option ev_C) : Bool := match a, b with
  | none, none => true
  | some (.inl (i, l)), some (.inl (j, m)) => Nat.beq i j && ev_leq l m
  | some (.inr (i, n, l)), some (.inr (j, k, m)) => Nat.beq i j && (Nat.beq n k && ev_leq l m)
  | _, _ => false
theorem ev_veq_ok {a b : ev_V} (h : ev_veq a b = true) : a = b := by
  match a, b, h with
  | .inl (a1, a2), .inl (b1, b2), h =>
    have h : (decide (a1 = b1) && decide (a2 = b2)) = true := h
    rw [Bool.and_eq_true, decide_eq_true_eq, decide_eq_true_eq] at h
    rw [h.1, h.2]
  | .inr (.inl (a1, a2)), .inr (.inl (b1, b2)), h =>
    have h : (decide (a1 = b1) && decide (a2 = b2)) = true := h
    rw [Bool.and_eq_true, decide_eq_true_eq, decide_eq_true_eq] at h
    rw [h.1, h.2]
  | .inr (.inr none), .inr (.inr none), _ => rfl
  | .inr (.inr (some (.inl i))), .inr (.inr (some (.inl j))), h => rw [Nat.eq_of_beq_eq_true (show Nat.beq i j = true from h)]
  | .inr (.inr (some (.inr i))), .inr (.inr (some (.inr j))), h => rw [Nat.eq_of_beq_eq_true (show Nat.beq i j = true from h)]
theorem ev_leq_ok : ∀ {l m : List ev_V}, ev_leq l m = true → l = m
  | [], [], _ => rfl
  | a :: l, b :: m, h => by
    have h : cond (ev_veq a b) (ev_leq l m) false = true := h
    cases hv : ev_veq a b with
    | false => rw [hv] at h; cases h
    | true =>
      rw [hv] at h
      rw [ev_veq_ok hv, ev_leq_ok h]
theorem ev_ceq_ok {a b : Option ev_C} (h : ev_ceq a b = true) : a = b := by
  match a, b, h with
  | none, none, _ => rfl
  | some (.inl (i, l)), some (.inl (j, m)), h =>
    have h : (Nat.beq i j && ev_leq l m) = true := h
    rw [Bool.and_eq_true] at h
    rw [Nat.eq_of_beq_eq_true h.1, ev_leq_ok h.2]
  | some (.inr (i, n, l)), some (.inr (j, k, m)), h =>
    have h : (Nat.beq i j && (Nat.beq n k && ev_leq l m)) = true := h
    rw [Bool.and_eq_true, Bool.and_eq_true] at h
    rw [Nat.eq_of_beq_eq_true h.1, Nat.eq_of_beq_eq_true h.2.1, ev_leq_ok h.2.2]
/-- what the first tree knows the second one knows, too -/
def k_ll {δ : Type} (e : δ) (F : δ → δ → Bool) : List δ → List δ → Bool
  | [], _ => true
  | a :: l, [] => F a e && k_ll e F l []
  | a :: l, b :: m => F a b && k_ll e F l m
def k_tle : (n : Nat) → ev_T (Option ev_C) n → ev_T (Option ev_C) n → Bool
  | 0, a, b => (match (a : Option ev_C) with
    | none => true
    | some q => ev_ceq (some q) b)
  | n + 1, a, b => k_ll (ev_e0 n) (k_tle n) (a : List (ev_T (Option ev_C) n)) (b : List (ev_T (Option ev_C) n))
theorem k_ll_at {δ : Type} {e : δ} {F : δ → δ → Bool} : ∀ {l m : List δ} (i : Nat) (a : δ), k_ll e F l m = true → ev_lg l i = some a → F a ((ev_lg m i).getD e) = true
  | [], m, i, a, _, h => by cases h
  | a :: l, [], 0, x, h, hx => by
    have h : (F a e && k_ll e F l []) = true := h
    rw [Bool.and_eq_true] at h
    cases hx
    exact h.1
  | a :: l, [], i + 1, x, h, hx => by
    have h : (F a e && k_ll e F l []) = true := h
    rw [Bool.and_eq_true] at h
    exact k_ll_at (m := []) i x h.2 hx
  | a :: l, b :: m, 0, x, h, hx => by
    have h : (F a b && k_ll e F l m) = true := h
    rw [Bool.and_eq_true] at h
    cases hx
    exact h.1
  | a :: l, b :: m, i + 1, x, h, hx => by
    have h : (F a b && k_ll e F l m) = true := h
    rw [Bool.and_eq_true] at h
    exact k_ll_at i x h.2 hx
theorem k_tle_ok : ∀ (n : Nat) {a b : ev_T (Option ev_C) n}, k_tle n a b = true → ∀ (k : Nat) (q : ev_C), ev_tg n a k = some q → ev_tg n b k = some q
  | 0, a, b, h, k, q, hq => by
    have hq : (a : Option ev_C) = some q := hq
    subst hq
    have h : ev_ceq (some q) b = true := h
    exact (ev_ceq_ok h).symm
  | n + 1, a, b, h, k, q, hq => by
    have h : k_ll (ev_e0 n) (k_tle n) (a : List (ev_T (Option ev_C) n)) (b : List (ev_T (Option ev_C) n)) = true := h
    simp only [ev_tg_s] at hq ⊢
    split at hq
    · next l hl =>
      have h1 := k_tle_ok n (k_ll_at _ _ h hl) (k / 8) q hq
      cases hb : ev_lg (b : List (ev_T (Option ev_C) n)) (k % 8) with
      | none =>
        rw [hb] at h1
        rw [Option.getD_none, ev_e0_none] at h1
        cases h1
      | some l' =>
        rw [hb] at h1
        exact h1
    · cases hq
def k_Lle : List (Option ev_V) → List (Option ev_V) → Bool
  | [], m => (match m with
    | [] => true
    | _ :: _ => false)
  | a :: l, m => (match m with
    | [] => false
    | b :: m => (match a with
      | none => k_Lle l m
      | some v => (match b with
        | none => false
        | some w => cond (ev_veq v w) (k_Lle l m) false)))
theorem k_Lle_ok : ∀ {l m : List (Option ev_V)}, k_Lle l m = true → l.length = m.length ∧ ∀ (i : Nat) (v : ev_V), l[i]? = some (some v) → m[i]? = some (some v)
  | [], [], _ => ⟨rfl, fun i v h => by simp at h⟩
  | none :: l, b :: m, h => by
    obtain ⟨h1, h2⟩ := k_Lle_ok (show k_Lle l m = true from h)
    refine ⟨by simp [h1], fun i v hi => ?_⟩
    cases i with
    | zero => cases hi
    | succ i => exact h2 i v (by simpa using hi)
  | some v :: l, none :: m, h => by cases h
  | some v :: l, some w :: m, h => by
    have h : cond (ev_veq v w) (k_Lle l m) false = true := h
    cases hv : ev_veq v w with
    | false => rw [hv] at h; cases h
    | true =>
      rw [hv] at h
      obtain ⟨h1, h2⟩ := k_Lle_ok (show k_Lle l m = true from h)
      have e := ev_veq_ok hv
      subst e
      refine ⟨by simp [h1], fun i u hi => ?_⟩
      cases i with
      | zero => exact hi
      | succ i => exact h2 i u (by simpa using hi)
/-- the first knows less than the second -/
def k_sle (a b : ev_S) : Bool := match a, b with
  | (stk, L, (n, t), (c, z)), (stk', L', (n', t'), (c', z')) => ev_leq stk stk' && (k_Lle L L' && (Nat.beq n n' && (k_tle 5 t t' && (Nat.ble c' c && Nat.ble z' z))))
theorem k_hR_le {ad0 : List Nat} {tyOf : Nat → FieldType} {tys : List (ClassId × FieldType)} {ex : Nat → Value} {n : Nat} {t t' : ev_T (Option ev_C) 5} {ws : va_W} (h : k_tle 5 t t' = true) (hh : ev_hR ad0 tyOf tys ex (n, t') ws) : ev_hR ad0 tyOf tys ex (n, t) ws :=
  ⟨hh.1, hh.2.1, hh.2.2.1, fun k hk q hq => hh.2.2.2 k hk q (k_tle_ok 5 h k q hq)⟩
section KPos
variable {p : Program} {l : Launch} {e : Env} {R : Room} {s : State} {m : MethodId} {args : Array Value} {below : List Frame} {meth : Method} {c : Code} {Q : State → Prop} {nL : Nat} {D : va_G} {cl : List vw_C} {A : Nat → Prop} {H0 : Heap} {ex : Nat → Value} {ad0 : List Nat} {tyOf : Nat → FieldType}
theorem k_sle_ok {a b : ev_S} {pc : Nat} (h : k_sle a b = true) (g : ev_G p l e R s m args below meth c Q nL D cl A H0 ex ad0 tyOf pc a) : ev_G p l e R s m args below meth c Q nL D cl A H0 ex ad0 tyOf pc b := by
  obtain ⟨stk, L, ⟨n, t⟩, c1, z1⟩ := a
  obtain ⟨stk', L', ⟨n', t'⟩, c2, z2⟩ := b
  have h : (ev_leq stk stk' && (k_Lle L L' && (Nat.beq n n' && (k_tle 5 t t' && (Nat.ble c2 c1 && Nat.ble z2 z1))))) = true := h
  rw [Bool.and_eq_true, Bool.and_eq_true, Bool.and_eq_true, Bool.and_eq_true, Bool.and_eq_true] at h
  obtain ⟨h1, h2, h3, h4, h5, h6⟩ := h
  have e1 := ev_leq_ok h1
  have e3 := Nat.eq_of_beq_eq_true h3
  subst e1 e3
  obtain ⟨k1, k2⟩ := k_Lle_ok h2
  intro H locs ls lv sv ws tys hK hP hD hS hh hl hn hL hs
  exact W.widen (Nat.le_of_ble_eq_true h5) (Nat.le_of_ble_eq_true h6) (g H locs ls lv sv ws tys hK hP hD hS (k_hR_le h4 hh) hl (k1.trans hn) (fun i v hi => hL i v (k2 i v hi)) hs)
end KPos
/-- from the first place and picture the second is come to, perhaps with less known -/
def k_R (code : Nat → Option (ev_I ⊕ Nat)) (x y : Nat × ev_S) : Prop := ∀ P : Nat → ev_S → Prop, (∀ pc f st pc' st', code pc = some (.inl f) → f st = some (pc', st') → P pc' st' → P pc st) → (∀ pc a b, k_sle a b = true → P pc a → P pc b) → P y.1 y.2 → P x.1 x.2
theorem k_R.trans {code : Nat → Option (ev_I ⊕ Nat)} {x y z : Nat × ev_S} (h1 : k_R code x y) (h2 : k_R code y z) : k_R code x z := fun P a b c => h1 P a b (h2 P a b c)
theorem k_R.rfl {code : Nat → Option (ev_I ⊕ Nat)} {x : Nat × ev_S} : k_R code x x := fun _ _ _ c => c
def k_ck (code : Nat → Option (ev_I ⊕ Nat)) (n : Nat) (x y : Nat × ev_S) : Bool := match ev_stp code n x.1 x.2 with
  | some (pc, st) => Nat.beq y.1 pc && k_sle y.2 st
  | none => false
theorem k_stp_P {code : Nat → Option (ev_I ⊕ Nat)} {P : Nat → ev_S → Prop} (h : ∀ pc f st pc' st', code pc = some (.inl f) → f st = some (pc', st') → P pc' st' → P pc st) : ∀ (n pc : Nat) (st : ev_S) (pc1 : Nat) (st1 : ev_S), ev_stp code n pc st = some (pc1, st1) → P pc1 st1 → P pc st
  | 0, pc, st, pc1, st1, e => by cases e; exact fun g => g
  | n + 1, pc, st, pc1, st1, e => by
    simp only [ev_stp_s] at e
    split at e
    · next f hf =>
      split at e
      · next pc' st' hs => exact fun g => h pc f st pc' st' hf hs (k_stp_P h n pc' st' pc1 st1 e g)
      · cases e
    · cases e
theorem k_R_of {code : Nat → Option (ev_I ⊕ Nat)} {n : Nat} {x y : Nat × ev_S} (h : k_ck code n x y = true) : k_R code x y := by
  intro P a b c
  unfold k_ck at h
  split at h
  · next pc st hs =>
    rw [Bool.and_eq_true] at h
    have e := Nat.eq_of_beq_eq_true h.1
    exact k_stp_P a n x.1 x.2 pc st hs (b pc y.2 st h.2 (by rw [← e]; exact c))
  · cases h
section KPos2
variable {p : Program} {l : Launch} {e : Env} {R : Room} {s : State} {m : MethodId} {args : Array Value} {below : List Frame} {meth : Method} {c : Code} {Q : State → Prop} {nL : Nat} {D : va_G} {cl : List vw_C} {A : Nat → Prop} {H0 : Heap} {ex : Nat → Value} {ad0 : List Nat} {tyOf : Nat → FieldType}
theorem k_R_G {code : Nat → Option (ev_I ⊕ Nat)} {x y : Nat × ev_S} (hsim : ∀ pc f, code pc = some (.inl f) → ev_Sim p l e R s m args below meth c Q nL D cl A H0 ex ad0 tyOf pc f) (h : k_R code x y) (g : ev_G p l e R s m args below meth c Q nL D cl A H0 ex ad0 tyOf y.1 y.2) : ev_G p l e R s m args below meth c Q nL D cl A H0 ex ad0 tyOf x.1 x.2 :=
  h (fun pc st => ev_G p l e R s m args below meth c Q nL D cl A H0 ex ad0 tyOf pc st) (fun pc f st pc' st' hc hf g => hsim pc f hc st pc' st' hf g) (fun pc a b hle g => k_sle_ok hle g) g
end KPos2
/-- a call that was walked in pieces -/
def k_plug (mid0 : Nat) (as0 : List ev_V) (h0 : ev_Hp) (rv : Option ev_V) (h1 : ev_Hp) : ev_E := fun mid as h => cond (Nat.beq mid mid0 && (ev_leq as0 as && (Nat.beq h0.1 h.1 && k_tle 5 h0.2 h.2))) (some (rv, h1)) none
section KPos3
variable {l : Launch} {D : va_G} {cl : List vw_C} {A : Nat → Prop} {ex : Nat → Value} {tyOf : Nat → FieldType} {XT : State → Prop} {yOf : Nat → MethodName} {bOf : Nat → ByteArray} {nLOf : Nat → Nat} {retOf : Nat → Option FieldType} {wsOf : Nat → List Cond} {cmOf smOf : Nat → Nat} {k0 mz : Nat}
theorem k_plug_ok {mc : Nat → ev_E → Nat → Option (ev_I ⊕ Nat)} (hT : k_Tb l D cl A ex tyOf XT yOf bOf nLOf retOf wsOf cmOf smOf k0 mz mc) {d : Nat} {E : ev_E} (hd : k0 ≤ d) (hEs : ev_Snd l D cl A ex tyOf XT yOf wsOf cmOf smOf d E)
    {mid0 k pc1 c1 n1 : Nat} {as0 stk : List ev_V} {L : List (Option ev_V)} {h0 h1 : ev_Hp} {rv : Option ev_V} (hlay : (ev_lay as0).length ≤ nLOf mid0) (hr : k_R (mc mid0 E) (0, ([], ev_ent (nLOf mid0) as0, h0, (0, 0))) (pc1, (stk, L, h1, (c1, n1)))) (hstop : mc mid0 E pc1 = some (.inr k)) (hout : ev_out k stk h1 = some (rv, h1)) (hc1 : c1 ≤ cmOf mid0) (hn1 : n1 ≤ smOf mid0) :
    ev_Snd l D cl A ex tyOf XT yOf wsOf cmOf smOf (d + 1) (k_plug mid0 as0 h0 rv h1) := by
  intro mid as h rv9 h9 hE w tys vals hv
  have hE : cond (Nat.beq mid mid0 && (ev_leq as0 as && (Nat.beq h0.1 h.1 && k_tle 5 h0.2 h.2))) (some (rv, h1)) none = some (rv9, h9) := hE
  obtain ⟨a1, hE9⟩ := ev_bt1 hE
  clear hE
  cases hE9
  rw [Bool.and_eq_true, Bool.and_eq_true, Bool.and_eq_true] at a1
  obtain ⟨a1, a2, a3, a4⟩ := a1
  have a1 := Nat.eq_of_beq_eq_true a1
  have a2 := ev_leq_ok a2
  have a3 := Nat.eq_of_beq_eq_true a3
  subst a1 a2
  obtain ⟨hpl, ⟨ws', hws⟩, htab⟩ := hT mid ⟨E, pc1, _, hstop⟩
  refine ev_ofB (cc := bOf mid) (maxL := nLOf mid) (ret := retOf mid) hpl hws ?_
  intro p e s m args below meth c s₁ B hml hv0
  obtain ⟨rfl, hP, hK, hD, hA, hh, hXs⟩ := hv0
  have hts := atoms_spec (ws := wsOf mid) B.pre
  have hown : s.vm.findClass (yOf mid).cls = some m.cls := findClass_of_methodNamed B.named
  have hname : meth.name = (yOf mid).name := (name_of_methodNamed B.named B.method).1
  obtain ⟨hsim, hstp⟩ := htab d E hd hEs p e ({ frames := d + 1, cells := cmOf mid, slots := smOf mid, locals := 64 * (d + 1) } : Room) s m vals.toArray below meth c (MQ below (ev_Qo D cl A ex tyOf (w.map Prod.fst) rv h1) vals.toArray s (cmOf mid) (smOf mid) A) (w.map Prod.fst) B.exec B.bytes hml hname hown hts hXs hA (Or.inl (Nat.le_refl _)) (Or.inr (Nat.le_add_left _ _)) (Nat.le_refl _) (Nat.le_refl _) (Nat.le_refl _)
  have hend := ev_end (l := l) (p := p) (e := e) (R := ({ frames := d + 1, cells := cmOf mid, slots := smOf mid, locals := 64 * (d + 1) } : Room)) (s := s) (m := m) (args := vals.toArray) (below := below) (meth := meth) (c := c) (nL := nLOf mid) (D := D) (cl := cl) (A := A) (ex := ex) (tyOf := tyOf) (ad := w.map Prod.fst) (L := L) B.exec B.bytes B.returns B.notSynchronized (hstp pc1 k hstop) hout hc1 hn1
  have g0 := k_R_G hsim hr hend
  have hl := lv_entry vals (n := nLOf mid) (by rw [ev_lay_len hv]; exact hlay)
  rw [lg_entry_eq]
  have hh0 : ev_hR (w.map Prod.fst) tyOf tys ex (h0.1, h0.2) w := k_hR_le a4 (by rw [a3]; exact ⟨hh.1, hh.2.1, fun _ _ z => z, hh.2.2.2⟩)
  exact g0 s.heap [] _ _ [] w tys hK hP hD va_S.rf hh0 hl (by unfold ev_ent; rw [List.length_append, List.length_replicate]; omega) (ev_ent_ok hv) rfl
end KPos3
end KV51_pos
