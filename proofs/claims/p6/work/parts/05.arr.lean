noncomputable section KV05_arr
/-! ARRAYS. -/
/-- what a new array holds: by ev_kd of its elements' type -/
def ev_ad (kd : Nat) : ev_V := match kd with
  | 0 => ev_int 0
  | 1 => .inr (.inl (0, 0))
  | _ => ev_null
def ev_newa (n tc kd cm sm : Nat) : ev_I := fun st => match st with
  | (.inl (.ofNat k1, k2) :: stk, L, (sz, t), (c1, n1)) => cond (decide (Int.ofNat k1 = k2) && (Nat.blt k1 65536 && (Nat.blt sz 32768 && (Nat.ble (c1 + 1) cm && Nat.ble (n1 + k1) sm)))) (ev_fN k1 (fun N => ev_ts 5 t sz (some (.inr (tc, N, List.replicate N (ev_ad kd)))) (fun t' => ev_fN (sz + 1) (fun sz' => ev_fN (c1 + 1) (fun c' => ev_fN (n1 + k1) (fun n' => some (n, (ev_ref sz :: stk, L, (sz', t'), (c', n')))))))) ) none
  | _ => none
def ev_alen (n : Nat) : ev_I := fun st => match st with
  | (.inr (.inr (some (.inl k))) :: stk, L, h, r) => match ev_tg 5 h.2 k with
    | some (.inr (_, len, _)) => some (n, (.inl (.ofNat len, .ofNat len) :: stk, L, h, r))
    | _ => none
  | _ => none
def ev_ald (n tc : Nat) : ev_I := fun st => match st with
  | (.inl (.ofNat i1, i2) :: .inr (.inr (some (.inl k))) :: stk, L, h, r) => match ev_tg 5 h.2 k with
    | some (.inr (tc', _, els)) => match ev_lg els i1 with
      | some v => cond (decide (Int.ofNat i1 = i2) && Nat.beq tc' tc) (some (n, (v :: stk, L, h, r))) none
      | none => none
    | _ => none
  | _ => none
/-- how a value lies in an array: 0 int, 2 byte, 3 char, 4 long -/
def ev_nar {β : Type} (tk : Nat) (v : ev_V) (κ : ev_V → Option β) : Option β := match tk, v with
  | 0, .inl x => κ (.inl x)
  | 2, .inl (a1, a2) => cond (decide (a1 = a2)) (ev_fI (ev_b8 a1) (fun z => κ (.inl (z, z)))) (κ (.inl (-128, 127)))
  | 3, .inl (a1, a2) => cond (decide (a1 = a2)) (ev_fI (ev_c16 a1) (fun z => κ (.inl (z, z)))) (κ (.inl (0, 65535)))
  | 4, .inr (.inl x) => κ (.inr (.inl x))
  | _, _ => none
def ev_ast (n tc tk : Nat) : ev_I := fun st => match st with
  | (v :: .inl (.ofNat i1, i2) :: .inr (.inr (some (.inl k))) :: stk, L, h, r) => match ev_tg 5 h.2 k with
    | some (.inr (tc', len, els)) => cond (decide (Int.ofNat i1 = i2) && Nat.beq tc' tc) (ev_nar tk v (fun v' => ev_ls els i1 v' (fun els' => ev_ts 5 h.2 k (some (.inr (tc', len, els'))) (fun t' => some (n, (stk, L, (h.1, t'), r)))) none)) none
    | _ => none
  | _ => none
/-- a reference of the class ci, or null, to an array of such -/
def ev_astq (n tc ci : Nat) : ev_I := fun st => match st with
  | (.inr (.inr v) :: .inl (.ofNat i1, i2) :: .inr (.inr (some (.inl k))) :: stk, L, h, r) => match ev_tg 5 h.2 k with
    | some (.inr (tc', len, els)) => cond (decide (Int.ofNat i1 = i2) && (Nat.beq tc' tc && (match v with
        | none => true
        | some (.inl j) => (match ev_tg 5 h.2 j with
          | some (.inl (ci', _)) => Nat.beq ci' ci
          | _ => false)
        | _ => false))) (ev_ls els i1 (.inr (.inr v)) (fun els' => ev_ts 5 h.2 k (some (.inr (tc', len, els'))) (fun t' => some (n, (stk, L, (h.1, t'), r)))) none) none
    | _ => none
  | _ => none
theorem ev_newa_i {st st' : ev_S} {n tc kd cm sm pc' : Nat} (h : ev_newa n tc kd cm sm st = some (pc', st')) : ∃ N stk, st.1 = .inl (.ofNat N, .ofNat N) :: stk ∧ N < 65536 ∧ st.2.2.1.1 < 32768 ∧ st.2.2.2.1 + 1 ≤ cm ∧ st.2.2.2.2 + N ≤ sm ∧ pc' = n ∧ st' = (ev_ref st.2.2.1.1 :: stk, st.2.1, (st.2.2.1.1 + 1, ev_tS 5 st.2.2.1.2 st.2.2.1.1 (some (.inr (tc, N, List.replicate N (ev_ad kd))))), (st.2.2.2.1 + 1, st.2.2.2.2 + N)) := by
  obtain ⟨stk, L, ⟨sz, t⟩, c1, n1⟩ := st
  match stk, h with
  | .inl (.ofNat k1, k2) :: stk, h =>
    simp only [ev_newa, ev_ts_eq, ev_fN_eq] at h
    obtain ⟨a1, h9⟩ := ev_bt1 h
    clear h
    rw [Bool.and_eq_true, Bool.and_eq_true, Bool.and_eq_true, Bool.and_eq_true, decide_eq_true_eq] at a1
    obtain ⟨rfl, a2, a3, a4, a5⟩ := a1
    cases h9
    exact ⟨k1, stk, rfl, Nat.le_of_ble_eq_true a2, Nat.le_of_ble_eq_true a3, Nat.le_of_ble_eq_true a4, Nat.le_of_ble_eq_true a5, rfl, rfl⟩
theorem ev_alen_i {st st' : ev_S} {n pc' : Nat} (h : ev_alen n st = some (pc', st')) : ∃ k stk tc len els, st.1 = .inr (.inr (some (.inl k))) :: stk ∧ ev_tg 5 st.2.2.1.2 k = some (.inr (tc, len, els)) ∧ pc' = n ∧ st' = (.inl (.ofNat len, .ofNat len) :: stk, st.2) := by
  obtain ⟨stk, L, hp, r⟩ := st
  match stk, h with
  | .inr (.inr (some (.inl k))) :: stk, h =>
    simp only [ev_alen] at h
    split at h
    · next tc len els hq => cases h; exact ⟨k, stk, tc, len, els, rfl, hq, rfl, rfl⟩
    · cases h
theorem ev_ald_i {st st' : ev_S} {n tc pc' : Nat} (h : ev_ald n tc st = some (pc', st')) : ∃ i k stk len els v, st.1 = .inl (.ofNat i, .ofNat i) :: .inr (.inr (some (.inl k))) :: stk ∧ ev_tg 5 st.2.2.1.2 k = some (.inr (tc, len, els)) ∧ els[i]? = some v ∧ pc' = n ∧ st' = (v :: stk, st.2) := by
  obtain ⟨stk, L, hp, r⟩ := st
  match stk, h with
  | .inl (.ofNat i1, i2) :: .inr (.inr (some (.inl k))) :: stk, h =>
    simp only [ev_ald, ev_lg_eq] at h
    split at h
    · next tc' len els hq =>
      split at h
      · next v hv =>
        obtain ⟨a1, a2, h2⟩ := ev_bt h
        rw [decide_eq_true_eq] at a1
        subst a1
        have e1 : tc' = tc := Nat.eq_of_beq_eq_true a2
        subst e1
        cases h2
        exact ⟨i1, k, stk, len, els, v, rfl, hq, hv, rfl, rfl⟩
      · cases h
    · cases h
theorem ev_c16b (x : Int32) : (x.toUInt32.toUInt16.toUInt32.toInt32).toInt = ev_c16 x.toInt := by
  have h : x.toUInt32.toUInt16.toUInt32 = x.toUInt32 % 65536 := by
    apply UInt32.toNat_inj.mp
    simp
  rw [h]
  exact ev_c16_ok x
def ev_narP (tk : Nat) (ad : List Nat) (ex : Nat → Value) (v' : ev_V) (w : Value) : Prop := match tk with
  | 0 => ∃ x : Int32, w = .int x ∧ ev_vR ad ex v' (.int x)
  | 2 => ∃ x : Int32, w = .int x ∧ ev_vR ad ex v' (.int (vp_nar .byte x))
  | 3 => ∃ x : Int32, w = .int x ∧ ev_vR ad ex v' (.int (vp_nar .char x))
  | 4 => ∃ x : Int64, w = .long x ∧ ev_vR ad ex v' (.long x)
  | _ => False
theorem ev_nar_i {β : Type} {tk : Nat} {v : ev_V} {κ : ev_V → Option β} {y : β} (h : ev_nar tk v κ = some y) : ∃ v', κ v' = some y ∧ ∀ (ad : List Nat) (ex : Nat → Value) (w : Value), ev_vR ad ex v w → ev_narP tk ad ex v' w := by
  match tk, v, h with
  | 0, .inl (lo, hi), h => exact ⟨_, h, fun ad ex w ⟨x, hw, h1⟩ => ⟨x, hw, x, rfl, h1⟩⟩
  | 4, .inr (.inl (lo, hi)), h => exact ⟨_, h, fun ad ex w ⟨x, hw, h1⟩ => ⟨x, hw, x, rfl, h1⟩⟩
  | 2, .inl (a1, a2), h =>
    simp only [ev_nar, ev_fI_eq] at h
    by_cases q : a1 = a2
    · rw [decide_eq_true q] at h
      refine ⟨_, h, fun ad ex w ⟨x, hw, h1, h2⟩ => ⟨x, hw, _, rfl, ?_⟩⟩
      rw [vp_nar_byte, ev_b8_ok, show x.toInt = a1 by omega]
      exact ⟨Int.le_refl _, Int.le_refl _⟩
    · rw [decide_eq_false q] at h
      refine ⟨_, h, fun ad ex w ⟨x, hw, h1, h2⟩ => ⟨x, hw, _, rfl, ?_⟩⟩
      rw [vp_nar_byte]
      exact ev_b8_in x
  | 3, .inl (a1, a2), h =>
    simp only [ev_nar, ev_fI_eq] at h
    by_cases q : a1 = a2
    · rw [decide_eq_true q] at h
      refine ⟨_, h, fun ad ex w ⟨x, hw, h1, h2⟩ => ⟨x, hw, _, rfl, ?_⟩⟩
      rw [vp_nar_char]
      have e8 : (x.toUInt32.toUInt16.toUInt32.toInt32).toInt = ev_c16 x.toInt := ev_c16b x
      rw [e8, show x.toInt = a1 by omega]
      exact ⟨Int.le_refl _, Int.le_refl _⟩
    · rw [decide_eq_false q] at h
      refine ⟨_, h, fun ad ex w ⟨x, hw, h1, h2⟩ => ⟨x, hw, _, rfl, ?_⟩⟩
      rw [vp_nar_char]
      have e8 : (x.toUInt32.toUInt16.toUInt32.toInt32).toInt = ev_c16 x.toInt := ev_c16b x
      rw [e8]
      unfold ev_c16
      omega
theorem ev_ast_i {st st' : ev_S} {n tc tk pc' : Nat} (h : ev_ast n tc tk st = some (pc', st')) : ∃ v v' i k stk len els, st.1 = v :: .inl (.ofNat i, .ofNat i) :: .inr (.inr (some (.inl k))) :: stk ∧ ev_tg 5 st.2.2.1.2 k = some (.inr (tc, len, els)) ∧ i < els.length ∧ pc' = n ∧ st' = (stk, st.2.1, (st.2.2.1.1, ev_tS 5 st.2.2.1.2 k (some (.inr (tc, len, els.set i v')))), st.2.2.2) ∧ ∀ (ad : List Nat) (ex : Nat → Value) (w : Value), ev_vR ad ex v w → ev_narP tk ad ex v' w := by
  obtain ⟨stk, L, hp, r⟩ := st
  match stk, h with
  | v :: .inl (.ofNat i1, i2) :: .inr (.inr (some (.inl k))) :: stk, h =>
    simp only [ev_ast] at h
    split at h
    · next tc' len els hq =>
      obtain ⟨a1, a2, h9⟩ := ev_bt h
      clear h
      rw [decide_eq_true_eq] at a1
      subst a1
      have e1 : tc' = tc := Nat.eq_of_beq_eq_true a2
      subst e1
      obtain ⟨v', h8, hv⟩ := ev_nar_i h9
      rw [ev_ls_eq, ev_ts_eq] at h8
      by_cases hi : i1 < els.length
      · rw [if_pos hi] at h8
        cases h8
        exact ⟨v, v', i1, k, stk, len, els, rfl, hq, hi, rfl, rfl, hv⟩
      · rw [if_neg hi] at h8
        cases h8
    · cases h
theorem ev_astq_i {st st' : ev_S} {n tc ci pc' : Nat} (h : ev_astq n tc ci st = some (pc', st')) : ∃ v i k stk len els, st.1 = .inr (.inr v) :: .inl (.ofNat i, .ofNat i) :: .inr (.inr (some (.inl k))) :: stk ∧ ev_tg 5 st.2.2.1.2 k = some (.inr (tc, len, els)) ∧ i < els.length ∧ pc' = n ∧ st' = (stk, st.2.1, (st.2.2.1.1, ev_tS 5 st.2.2.1.2 k (some (.inr (tc, len, els.set i (.inr (.inr v)))))), st.2.2.2) ∧ (v = none ∨ ∃ j fs, v = some (.inl j) ∧ ev_tg 5 st.2.2.1.2 j = some (.inl (ci, fs))) := by
  obtain ⟨stk, L, hp, r⟩ := st
  match stk, h with
  | .inr (.inr v) :: .inl (.ofNat i1, i2) :: .inr (.inr (some (.inl k))) :: stk, h =>
    simp only [ev_astq] at h
    split at h
    · next tc' len els hq =>
      obtain ⟨a1, a2, h9⟩ := ev_bt h
      clear h
      rw [decide_eq_true_eq] at a1
      subst a1
      rw [Bool.and_eq_true] at a2
      obtain ⟨a2, a3⟩ := a2
      have e1 : tc' = tc := Nat.eq_of_beq_eq_true a2
      subst e1
      rw [ev_ls_eq, ev_ts_eq] at h9
      by_cases hi : i1 < els.length
      · rw [if_pos hi] at h9
        cases h9
        refine ⟨v, i1, k, stk, len, els, rfl, hq, hi, rfl, rfl, ?_⟩
        match v, a3 with
        | none, _ => exact Or.inl rfl
        | some (.inl j), a3 =>
          dsimp only at a3
          split at a3
          · next ci' fs hj =>
            have e2 : ci' = ci := Nat.eq_of_beq_eq_true a3
            subst e2
            exact Or.inr ⟨j, fs, rfl, hj⟩
          · cases a3
      · rw [if_neg hi] at h9
        cases h9
    · cases h
/-- a known place of an array -/
theorem ev_ix {x : Int32} {i : Nat} (h1 : (Int.ofNat i) ≤ x.toInt) (h2 : x.toInt ≤ Int.ofNat i) : x.toNatClampNeg = i ∧ ∀ n : Nat, i < n → vp_in x n := by
  have e : x.toInt = (i : Int) := Int.le_antisymm h2 h1
  have e2 : x.toNatClampNeg = i := by
    show x.toInt.toNat = i
    rw [e]
    rfl
  exact ⟨e2, fun n hn => vp_in_iff.mpr ⟨by omega, by omega⟩⟩
theorem ev_upd {els : List ev_V} {ad : List Nat} {ex : Nat → Value} {i : Nat} {v : ev_V} {f : Nat → Value} {w : Value} (h : ∀ j v, els[j]? = some v → ev_vR ad ex v (f j)) (hi : i < els.length) (hv : ev_vR ad ex v w) : ∀ j u, (els.set i v)[j]? = some u → ev_vR ad ex u (if j = i then w else f j) := by
  intro j u hj
  by_cases hij : i = j
  · subst hij
    rw [List.getElem?_set_self hi] at hj
    cases hj
    rw [if_pos rfl]
    exact hv
  · rw [List.getElem?_set_ne hij] at hj
    rw [if_neg (fun z => hij z.symm)]
    exact h j u hj
section EvD
variable {p : Program} {l : Launch} {e : Env} {R : Room} {s : State} {m : MethodId} {args : Array Value} {below : List Frame} {meth : Method} {c : Code} {Q : State → Prop} {nL : Nat} {D : va_G} {cl : List vw_C} {A : Nat → Prop} {H0 : Heap} {ex : Nat → Value} {ad0 : List Nat} {tyOf : Nat → FieldType}
variable {cc : ByteArray} {pc : Nat}
theorem ev_rep {α : Type} {x : α} {n j : Nat} {v : α} (h : (List.replicate n x)[j]? = some v) : v = x := by
  rw [List.getElem?_replicate] at h
  split at h
  · exact (Option.some.inj h).symm
  · cases h
theorem ev_one {tys : List (ClassId × FieldType)} {q : ClassId × FieldType} : ∃ t0 : Nat, (tys ++ [q])[t0]? = some q := ⟨tys.length, by rw [List.getElem?_append_right (Nat.le_refl _), Nat.sub_self]; rfl⟩
theorem ev_last {h1 : Nat} {ws : va_W} {q : Nat} {x : va_E} (hw : ws.length = h1) : ((ws ++ [(q, x)]).map Prod.fst)[h1]? = some q := by
  subst hw
  rw [List.map_append, List.getElem?_append_right (by rw [List.length_map]; exact Nat.le_refl _), List.length_map, Nat.sub_self]
  rfl
/-- a new array of ints or what is narrower -/
theorem ev_newai_ok (hx : p.tables.exec = Jvm.exec) (hb : c.code = cc) {atype : ArrayType} (harr : (Cond.arrayClass (newarray.typeOf atype)).before args s = true) {ty : FieldType} (hty : newarray.typeOf atype = ty) {tc cm sm : Nat} (htc : tyOf tc = ty) (hkd : ev_kd ty = 0) (hdv : defaultValue ty = .int 0) (hby : componentBytes ty ≤ 8) (hA : ∀ q, H0.size ≤ q → A q) (hcm : cm ≤ R.cells) (hsm : sm ≤ R.slots) (hd : decode cc pc = .ok (.newarray atype, 2)) : ev_Sim p l e R s m args below meth c Q nL D cl A H0 ex ad0 tyOf pc (ev_newa (pc + 2) tc 0 cm sm) := by
  intro st pc' st' h g
  obtain ⟨N, stk, e1, hN, h1, h2, h3, rfl, rfl⟩ := ev_newa_i h
  intro H locs ls lv sv ws tys hK hP hD hS hh hl hn hL hs
  rw [e1] at hs
  obtain ⟨w, r, rfl, ⟨x, rfl, hx1, hx2⟩, hr⟩ := hs
  obtain ⟨f1, f2⟩ := ev_ix hx1 hx2
  have f3 := vp_in_iff.mp (f2 (N + 1) (Nat.lt_succ_self N))
  have h0 : ¬ x < 0 := fun z => by have := Int32.lt_iff_toInt_lt.mp z; rw [Int32.toInt_zero] at this; omega
  refine va_newa hx hb harr hty hK hP hD hS hA (a0 := (N, .inl (fun _ => 0))) (fun cA => by rw [vp_cell_i, hdv]) h0 f1 (by calc N * componentBytes ty ≤ 65536 * 8 := Nat.mul_le_mul (Nat.le_of_lt hN) hby
    _ ≤ 536870912 := by decide) (Nat.le_trans h2 hcm) (Nat.le_trans h3 hsm) hd (fun q cA H1 hK1 hP1 hD1 hS1 => ?_)
  refine g H1 locs ls lv (.ref q :: r) _ _ hK1 hP1 hD1 hS1 (ev_hR_push hh h1 ev_app ⟨cA, _, rfl, List.length_replicate, by omega, by rw [htc]; exact ev_one, ?_⟩) hl hn (ev_lR_mono ev_fst_push hL) ⟨_, _, rfl, ⟨q, ev_last hh.1, rfl⟩, ev_kR_mono ev_fst_push hr⟩
  rw [htc, hkd]
  exact ⟨_, rfl, fun j v hj => by rw [ev_rep hj]; exact ⟨0, rfl, Int.le_refl _, Int.le_refl _⟩⟩
theorem ev_newal_ok (hx : p.tables.exec = Jvm.exec) (hb : c.code = cc) {atype : ArrayType} (harr : (Cond.arrayClass (newarray.typeOf atype)).before args s = true) (hty : newarray.typeOf atype = .long) {tc cm sm : Nat} (htc : tyOf tc = .long) (hA : ∀ q, H0.size ≤ q → A q) (hcm : cm ≤ R.cells) (hsm : sm ≤ R.slots) (hd : decode cc pc = .ok (.newarray atype, 2)) : ev_Sim p l e R s m args below meth c Q nL D cl A H0 ex ad0 tyOf pc (ev_newa (pc + 2) tc 1 cm sm) := by
  intro st pc' st' h g
  obtain ⟨N, stk, e1, hN, h1, h2, h3, rfl, rfl⟩ := ev_newa_i h
  intro H locs ls lv sv ws tys hK hP hD hS hh hl hn hL hs
  rw [e1] at hs
  obtain ⟨w, r, rfl, ⟨x, rfl, hx1, hx2⟩, hr⟩ := hs
  obtain ⟨f1, f2⟩ := ev_ix hx1 hx2
  have f3 := vp_in_iff.mp (f2 (N + 1) (Nat.lt_succ_self N))
  have h0 : ¬ x < 0 := fun z => by have := Int32.lt_iff_toInt_lt.mp z; rw [Int32.toInt_zero] at this; omega
  refine va_newa hx hb harr hty hK hP hD hS hA (a0 := (N, .inr (.inl (fun _ => 0)))) (fun cA => by rw [vp_cell_l]; rfl) h0 f1 (by calc N * componentBytes .long ≤ 65536 * 8 := Nat.mul_le_mul (Nat.le_of_lt hN) (by decide)
    _ ≤ 536870912 := by decide) (Nat.le_trans h2 hcm) (Nat.le_trans h3 hsm) hd (fun q cA H1 hK1 hP1 hD1 hS1 => ?_)
  refine g H1 locs ls lv (.ref q :: r) _ _ hK1 hP1 hD1 hS1 (ev_hR_push hh h1 ev_app ⟨cA, _, rfl, List.length_replicate, by omega, by rw [htc]; exact ev_one, ?_⟩) hl hn (ev_lR_mono ev_fst_push hL) ⟨_, _, rfl, ⟨q, ev_last hh.1, rfl⟩, ev_kR_mono ev_fst_push hr⟩
  rw [htc]
  exact ⟨_, rfl, fun j v hj => by rw [ev_rep hj]; exact ⟨0, rfl, Int.le_refl _, Int.le_refl _⟩⟩
theorem ev_newq_ok (hx : p.tables.exec = Jvm.exec) (hb : c.code = cc) {own C : String} {index tc cm sm : Nat} (ho : s.vm.findClass own = some m.cls) (hcl : (Cond.classLink own index C).before args s = true) (hover : va_AO C s) (htc : tyOf tc = .object C) (hA : ∀ q, H0.size ≤ q → A q) (hcm : cm ≤ R.cells) (hsm : sm ≤ R.slots) (hd : decode cc pc = .ok (.anewarray index, 3)) : ev_Sim p l e R s m args below meth c Q nL D cl A H0 ex ad0 tyOf pc (ev_newa (pc + 3) tc 2 cm sm) := by
  intro st pc' st' h g
  obtain ⟨N, stk, e1, hN, h1, h2, h3, rfl, rfl⟩ := ev_newa_i h
  intro H locs ls lv sv ws tys hK hP hD hS hh hl hn hL hs
  rw [e1] at hs
  obtain ⟨w, r, rfl, ⟨x, rfl, hx1, hx2⟩, hr⟩ := hs
  obtain ⟨f1, f2⟩ := ev_ix hx1 hx2
  have f3 := vp_in_iff.mp (f2 (N + 1) (Nat.lt_succ_self N))
  have h0 : ¬ x < 0 := fun z => by have := Int32.lt_iff_toInt_lt.mp z; rw [Int32.toInt_zero] at this; omega
  refine va_newq hx hb ho hcl hover hK hP hD hS hA h0 f1 (by omega) (Nat.le_trans h2 hcm) (Nat.le_trans h3 hsm) hd (fun q cA H1 hK1 hP1 hD1 hS1 => ?_)
  refine g H1 locs ls lv (.ref q :: r) _ _ hK1 hP1 hD1 hS1 (ev_hR_push hh h1 ev_app ⟨cA, _, rfl, List.length_replicate, by omega, by rw [htc]; exact ev_one, ?_⟩) hl hn (ev_lR_mono ev_fst_push hL) ⟨_, _, rfl, ⟨q, ev_last hh.1, rfl⟩, ev_kR_mono ev_fst_push hr⟩
  rw [htc]
  exact ⟨_, rfl, fun j v hj => by rw [ev_rep hj]; exact rfl⟩
theorem ev_alen_ok (hx : p.tables.exec = Jvm.exec) (hb : c.code = cc) (hd : decode cc pc = .ok (.arraylength, 1)) : ev_Sim p l e R s m args below meth c Q nL D cl A H0 ex ad0 tyOf pc (ev_alen (pc + 1)) := by
  intro st pc' st' h g
  obtain ⟨k, stk, tc, len, els, e1, hq, rfl, rfl⟩ := ev_alen_i h
  intro H locs ls lv sv ws tys hK hP hD hS hh hl hn hL hs
  rw [e1] at hs
  obtain ⟨w, r, rfl, hw, hr⟩ := hs
  obtain ⟨a, e2, hwk, rfl⟩ := ev_place hw
  obtain ⟨cA, x, rfl, hlen, hlt, ⟨t0, ht0⟩, hel⟩ := ev_cell hh hwk hq
  have e9 : (Int32.ofNat len).toInt = Int.ofNat len := nI_toInt hlt
  exact va_alen hx hb hK hP k t0 hwk ht0 rfl hd (g H locs ls lv (.int (Int32.ofNat len) :: r) ws tys hK hP hD hS hh hl hn hL ⟨_, _, rfl, ⟨_, rfl, by rw [e9]; exact Int.le_refl _, by rw [e9]; exact Int.le_refl _⟩, hr⟩)
theorem ev_ald_gen {tc n : Nat} {ty : FieldType} (htc : tyOf tc = ty) (hkd : ev_kd ty = 0)
    (row : ∀ (H : Heap) (locs : List Loc) (cells slots : Nat) (ls : Array Slot) (rest : List Value) (ws : va_W) (tys : List (ClassId × FieldType)) (a q0 t0 : Nat) (cA : ClassId) (N : Nat) (f : Nat → Int32) (x : Int32), va_K D cl tys s → va_P D cl ws H → ws[q0]? = some (a, .inl (cA, N, .inl f)) → tys[t0]? = some (cA, ty) → vp_in x N → W p l e R s m args below meth c H locs cells slots Q (F0 m n ls (.int (f x.toNatClampNeg) :: rest)) → W p l e R s m args below meth c H locs cells slots Q (F0 m pc ls (.int x :: .ref a :: rest))) : ev_Sim p l e R s m args below meth c Q nL D cl A H0 ex ad0 tyOf pc (ev_ald n tc) := by
  intro st pc' st' h g
  obtain ⟨i, k, stk, len, els, v, e1, hq, hv, rfl, rfl⟩ := ev_ald_i h
  intro H locs ls lv sv ws tys hK hP hD hS hh hl hn hL hs
  rw [e1] at hs
  obtain ⟨w, r, rfl, ⟨x, rfl, hx1, hx2⟩, w2, r2, rfl, hw2, hr⟩ := hs
  obtain ⟨a, e2, hwk, rfl⟩ := ev_place hw2
  obtain ⟨cA, x9, rfl, hlen, hlt, ⟨t0, ht0⟩, hel⟩ := ev_cell hh hwk hq
  rw [htc] at ht0 hel
  rw [hkd] at hel
  obtain ⟨f, rfl, hf⟩ := hel
  obtain ⟨f1, f2⟩ := ev_ix hx1 hx2
  have hi : i < len := by rw [← hlen]; exact (List.getElem?_eq_some_iff.mp hv).1
  refine row H locs _ _ ls r2 ws tys a k t0 cA len f x hK hP hwk ht0 (f2 len hi) ?_
  rw [f1]
  exact g H locs ls lv (.int (f i) :: r2) ws tys hK hP hD hS hh hl hn hL ⟨_, _, rfl, hf i v hv, hr⟩
theorem ev_iald_ok (hx : p.tables.exec = Jvm.exec) (hb : c.code = cc) {tc : Nat} (htc : tyOf tc = .int) (hd : decode cc pc = .ok (.iaload, 1)) : ev_Sim p l e R s m args below meth c Q nL D cl A H0 ex ad0 tyOf pc (ev_ald (pc + 1) tc) :=
  ev_ald_gen htc rfl (fun _ _ _ _ _ _ _ _ _ q0 t0 _ _ _ _ hK hP ha ht hin k => va_iald hx hb hK hP q0 t0 ha ht hin hd k)
theorem ev_bald_ok (hx : p.tables.exec = Jvm.exec) (hb : c.code = cc) {tc : Nat} (htc : tyOf tc = .byte) (hd : decode cc pc = .ok (.baload, 1)) : ev_Sim p l e R s m args below meth c Q nL D cl A H0 ex ad0 tyOf pc (ev_ald (pc + 1) tc) :=
  ev_ald_gen htc rfl (fun _ _ _ _ _ _ _ _ _ q0 t0 _ _ _ _ hK hP ha ht hin k => va_bald hx hb hK hP q0 t0 ha ht hin hd k)
theorem ev_cald_ok (hx : p.tables.exec = Jvm.exec) (hb : c.code = cc) {tc : Nat} (htc : tyOf tc = .char) (hd : decode cc pc = .ok (.caload, 1)) : ev_Sim p l e R s m args below meth c Q nL D cl A H0 ex ad0 tyOf pc (ev_ald (pc + 1) tc) :=
  ev_ald_gen htc rfl (fun _ _ _ _ _ _ _ _ _ q0 t0 _ _ _ _ hK hP ha ht hin k => va_cald hx hb hK hP q0 t0 ha ht hin hd k)
theorem ev_lald_ok (hx : p.tables.exec = Jvm.exec) (hb : c.code = cc) {tc : Nat} (htc : tyOf tc = .long) (hd : decode cc pc = .ok (.laload, 1)) : ev_Sim p l e R s m args below meth c Q nL D cl A H0 ex ad0 tyOf pc (ev_ald (pc + 1) tc) := by
  intro st pc' st' h g
  obtain ⟨i, k, stk, len, els, v, e1, hq, hv, rfl, rfl⟩ := ev_ald_i h
  intro H locs ls lv sv ws tys hK hP hD hS hh hl hn hL hs
  rw [e1] at hs
  obtain ⟨w, r, rfl, ⟨x, rfl, hx1, hx2⟩, w2, r2, rfl, hw2, hr⟩ := hs
  obtain ⟨a, e2, hwk, rfl⟩ := ev_place hw2
  obtain ⟨cA, x9, rfl, hlen, hlt, ⟨t0, ht0⟩, hel⟩ := ev_cell hh hwk hq
  rw [htc] at ht0 hel
  obtain ⟨f, rfl, hf⟩ := hel
  obtain ⟨f1, f2⟩ := ev_ix hx1 hx2
  have hi : i < len := by rw [← hlen]; exact (List.getElem?_eq_some_iff.mp hv).1
  refine va_lald hx hb hK hP k t0 hwk ht0 (f2 len hi) hd ?_
  rw [f1]
  exact g H locs ls lv (.long (f i) :: r2) ws tys hK hP hD hS hh hl hn hL ⟨_, _, rfl, hf i v hv, hr⟩
theorem ev_aald_ok (hx : p.tables.exec = Jvm.exec) (hb : c.code = cc) {tc : Nat} {C : String} (htc : tyOf tc = .object C) (hd : decode cc pc = .ok (.aaload, 1)) : ev_Sim p l e R s m args below meth c Q nL D cl A H0 ex ad0 tyOf pc (ev_ald (pc + 1) tc) := by
  intro st pc' st' h g
  obtain ⟨i, k, stk, len, els, v, e1, hq, hv, rfl, rfl⟩ := ev_ald_i h
  intro H locs ls lv sv ws tys hK hP hD hS hh hl hn hL hs
  rw [e1] at hs
  obtain ⟨w, r, rfl, ⟨x, rfl, hx1, hx2⟩, w2, r2, rfl, hw2, hr⟩ := hs
  obtain ⟨a, e2, hwk, rfl⟩ := ev_place hw2
  obtain ⟨cA, x9, rfl, hlen, hlt, ⟨t0, ht0⟩, hel⟩ := ev_cell hh hwk hq
  rw [htc] at ht0 hel
  obtain ⟨f, rfl, hf⟩ := hel
  obtain ⟨f1, f2⟩ := ev_ix hx1 hx2
  have hi : i < len := by rw [← hlen]; exact (List.getElem?_eq_some_iff.mp hv).1
  refine va_aldq hx hb hK hP k t0 hwk ht0 (f2 len hi) hd ?_
  rw [f1]
  exact g H locs ls lv (va_rf (f i) :: r2) ws tys hK hP hD hS hh hl hn hL ⟨_, _, rfl, hf i v hv, hr⟩
theorem ev_ast_gen {tc tk n : Nat} {ty : FieldType} {nr : Int32 → Int32} (htc : tyOf tc = ty) (hkd : ev_kd ty = 0)
    (hnr : ∀ (ad : List Nat) (ex : Nat → Value) (v' : ev_V) (w : Value), ev_narP tk ad ex v' w → ∃ x : Int32, w = .int x ∧ ev_vR ad ex v' (.int (nr x)))
    (row : ∀ (H : Heap) (locs : List Loc) (cells slots : Nat) (ls : Array Slot) (rest : List Value) (ws : va_W) (tys : List (ClassId × FieldType)) (a q0 t0 : Nat) (cA : ClassId) (N : Nat) (f : Nat → Int32) (i x : Int32), va_K D cl tys s → va_P D cl ws H → va_D A ws → va_S A H0 H locs → ws[q0]? = some (a, .inl (cA, N, .inl f)) → tys[t0]? = some (cA, ty) → vp_in i N →
      (∀ (H1 : Heap) (locs1 : List Loc), va_P D cl (ws.set q0 (a, .inl (cA, N, .inl (upd f i.toNatClampNeg (nr x))))) H1 → va_D A (ws.set q0 (a, .inl (cA, N, .inl (upd f i.toNatClampNeg (nr x))))) → va_S A H0 H1 locs1 → W p l e R s m args below meth c H1 locs1 cells slots Q (F0 m n ls rest)) → W p l e R s m args below meth c H locs cells slots Q (F0 m pc ls (.int x :: .int i :: .ref a :: rest))) : ev_Sim p l e R s m args below meth c Q nL D cl A H0 ex ad0 tyOf pc (ev_ast n tc tk) := by
  intro st pc' st' h g
  obtain ⟨v, v', i, k, stk, len, els, e1, hq, hi, rfl, rfl, hv⟩ := ev_ast_i h
  intro H locs ls lv sv ws tys hK hP hD hS hh hl hn hL hs
  rw [e1] at hs
  obtain ⟨w, r, rfl, hw, w1, r1, rfl, ⟨y, rfl, hy1, hy2⟩, w2, r2, rfl, hw2, hr⟩ := hs
  obtain ⟨a, e2, hwk, rfl⟩ := ev_place hw2
  obtain ⟨cA, x9, rfl, hlen, hlt, ⟨t0, ht0⟩, hel⟩ := ev_cell hh hwk hq
  have ht1 := ht0
  rw [htc] at ht1 hel
  rw [hkd] at hel
  obtain ⟨f, rfl, hf⟩ := hel
  obtain ⟨f1, f2⟩ := ev_ix hy1 hy2
  obtain ⟨x, rfl, hv1⟩ := hnr _ _ _ _ (hv _ _ _ hw)
  refine row H locs _ _ ls r2 ws tys a k t0 cA len f y x hK hP hD hS hwk ht1 (f2 len (by rw [← hlen]; exact hi)) (fun H1 locs1 hP1 hD1 hS1 => ?_)
  rw [f1] at hP1 hD1
  have ea := ev_fst_set (e' := .inl (cA, len, .inl (upd f i (nr x)))) hwk
  refine g H1 locs1 ls lv r2 _ tys hK hP1 hD1 hS1 (ev_hR_set hh hwk ⟨cA, _, rfl, by rw [List.length_set]; exact hlen, hlt, ⟨t0, ht0⟩, ?_⟩) hl hn (by rw [ea]; exact hL) (by rw [ea]; exact hr)
  rw [htc, hkd]
  refine ⟨_, rfl, fun j u hj => ?_⟩
  have h9 := ev_upd hf hi hv1 j u hj
  unfold upd
  by_cases hji : j = i
  · rw [if_pos hji] at h9 ⊢
    exact h9
  · rw [if_neg hji] at h9 ⊢
    exact h9
theorem ev_iast_ok (hx : p.tables.exec = Jvm.exec) (hb : c.code = cc) {tc : Nat} (htc : tyOf tc = .int) (hd : decode cc pc = .ok (.iastore, 1)) : ev_Sim p l e R s m args below meth c Q nL D cl A H0 ex ad0 tyOf pc (ev_ast (pc + 1) tc 0) :=
  ev_ast_gen (nr := fun x => x) htc rfl (fun _ _ _ _ h => h) (fun _ _ _ _ _ _ _ _ _ q0 t0 _ _ _ _ _ hK hP hD hS ha ht hin k => va_iast hx hb hK hP hD hS q0 t0 ha ht hin hd k)
theorem ev_bast_ok (hx : p.tables.exec = Jvm.exec) (hb : c.code = cc) {tc : Nat} (htc : tyOf tc = .byte) (hd : decode cc pc = .ok (.bastore, 1)) : ev_Sim p l e R s m args below meth c Q nL D cl A H0 ex ad0 tyOf pc (ev_ast (pc + 1) tc 2) :=
  ev_ast_gen (nr := fun x => vp_nar .byte x) htc rfl (fun _ _ _ _ h => h) (fun _ _ _ _ _ _ _ _ _ q0 t0 _ _ _ _ _ hK hP hD hS ha ht hin k => va_bast hx hb hK hP hD hS q0 t0 ha ht hin hd k)
theorem ev_cast_ok (hx : p.tables.exec = Jvm.exec) (hb : c.code = cc) {tc : Nat} (htc : tyOf tc = .char) (hd : decode cc pc = .ok (.castore, 1)) : ev_Sim p l e R s m args below meth c Q nL D cl A H0 ex ad0 tyOf pc (ev_ast (pc + 1) tc 3) :=
  ev_ast_gen (nr := fun x => vp_nar .char x) htc rfl (fun _ _ _ _ h => h) (fun _ _ _ _ _ _ _ _ _ q0 t0 _ _ _ _ _ hK hP hD hS ha ht hin k => va_cast hx hb hK hP hD hS q0 t0 ha ht hin hd k)
theorem ev_last_ok (hx : p.tables.exec = Jvm.exec) (hb : c.code = cc) {tc : Nat} (htc : tyOf tc = .long) (hd : decode cc pc = .ok (.lastore, 1)) : ev_Sim p l e R s m args below meth c Q nL D cl A H0 ex ad0 tyOf pc (ev_ast (pc + 1) tc 4) := by
  intro st pc' st' h g
  obtain ⟨v, v', i, k, stk, len, els, e1, hq, hi, rfl, rfl, hv⟩ := ev_ast_i h
  intro H locs ls lv sv ws tys hK hP hD hS hh hl hn hL hs
  rw [e1] at hs
  obtain ⟨w, r, rfl, hw, w1, r1, rfl, ⟨y, rfl, hy1, hy2⟩, w2, r2, rfl, hw2, hr⟩ := hs
  obtain ⟨a, e2, hwk, rfl⟩ := ev_place hw2
  obtain ⟨cA, x9, rfl, hlen, hlt, ⟨t0, ht0⟩, hel⟩ := ev_cell hh hwk hq
  have ht1 := ht0
  rw [htc] at ht1 hel
  obtain ⟨f, rfl, hf⟩ := hel
  obtain ⟨f1, f2⟩ := ev_ix hy1 hy2
  obtain ⟨x, rfl, hv1⟩ := hv _ _ _ hw
  refine va_last hx hb hK hP hD hS k t0 hwk ht1 (f2 len (by rw [← hlen]; exact hi)) hd (fun H1 locs1 hP1 hD1 hS1 => ?_)
  rw [f1] at hP1 hD1
  have ea := ev_fst_set (e' := .inl (cA, len, .inr (.inl (vp_updL f i x)))) hwk
  refine g H1 locs1 ls lv r2 _ tys hK hP1 hD1 hS1 (ev_hR_set hh hwk ⟨cA, _, rfl, by rw [List.length_set]; exact hlen, hlt, ⟨t0, ht0⟩, ?_⟩) hl hn (by rw [ea]; exact hL) (by rw [ea]; exact hr)
  rw [htc]
  refine ⟨_, rfl, fun j u hj => ?_⟩
  have h9 := ev_upd hf hi hv1 j u hj
  unfold vp_updL
  by_cases hji : j = i
  · rw [if_pos hji] at h9 ⊢
    exact h9
  · rw [if_neg hji] at h9 ⊢
    exact h9
theorem ev_astq_ok (hx : p.tables.exec = Jvm.exec) (hb : c.code = cc) {tc ci : Nat} {r0 : vw_C} (hc : cl[ci]? = some r0) (htc : tyOf tc = .object r0.1) (hd : decode cc pc = .ok (.aastore, 1)) : ev_Sim p l e R s m args below meth c Q nL D cl A H0 ex ad0 tyOf pc (ev_astq (pc + 1) tc ci) := by
  intro st pc' st' h g
  obtain ⟨v, i, k, stk, len, els, e1, hq, hi, rfl, rfl, hv⟩ := ev_astq_i h
  intro H locs ls lv sv ws tys hK hP hD hS hh hl hn hL hs
  rw [e1] at hs
  obtain ⟨w, r, rfl, hw, w1, r1, rfl, ⟨y, rfl, hy1, hy2⟩, w2, r2, rfl, hw2, hr⟩ := hs
  obtain ⟨a, e2, hwk, rfl⟩ := ev_place hw2
  obtain ⟨cA, x9, rfl, hlen, hlt, ⟨t0, ht0⟩, hel⟩ := ev_cell hh hwk hq
  have ht1 := ht0
  rw [htc] at ht1 hel
  obtain ⟨f, rfl, hf⟩ := hel
  obtain ⟨f1, f2⟩ := ev_ix hy1 hy2
  have fin : ∀ (o : Option Nat) (H1 : Heap) (locs1 : List Loc), ev_vR (ws.map Prod.fst) ex (.inr (.inr v)) (va_rf o) → va_P D cl (ws.set k (a, .inl (cA, len, .inr (.inr (.inr (.inr (va_up f i o))))))) H1 → va_D A (ws.set k (a, .inl (cA, len, .inr (.inr (.inr (.inr (va_up f i o))))))) → va_S A H0 H1 locs1 → W p l e R s m args below meth c H1 locs1 st.2.2.2.1 st.2.2.2.2 Q (F0 m (pc + 1) ls r2) := by
    intro o H1 locs1 ho hP1 hD1 hS1
    have ea := ev_fst_set (e' := .inl (cA, len, .inr (.inr (.inr (.inr (va_up f i o)))))) hwk
    refine g H1 locs1 ls lv r2 _ tys hK hP1 hD1 hS1 (ev_hR_set hh hwk ⟨cA, _, rfl, by rw [List.length_set]; exact hlen, hlt, ⟨t0, ht0⟩, ?_⟩) hl hn (by rw [ea]; exact hL) (by rw [ea]; exact hr)
    rw [htc]
    refine ⟨_, rfl, fun j u hj => ?_⟩
    have h9 := ev_upd hf hi ho j u hj
    unfold va_up
    by_cases hji : j = i
    · rw [if_pos hji] at h9 ⊢
      exact h9
    · rw [if_neg hji] at h9 ⊢
      exact h9
  rcases hv with rfl | ⟨j, fs, rfl, hj⟩
  · rw [show w = Value.null from hw]
    refine va_astqN hx hb hK hP hD hS k t0 hwk ht1 (f2 len (by rw [← hlen]; exact hi)) hd (fun H1 locs1 hP1 hD1 hS1 => ?_)
    rw [f1] at hP1 hD1
    exact fin none H1 locs1 rfl hP1 hD1 hS1
  · obtain ⟨b, e3, hwj, rfl⟩ := ev_place hw
    obtain ⟨vs, rfl, -, -⟩ := ev_cell hh hwj hj
    refine va_astq hx hb hK hP hD hS k t0 j ci hwk ht1 hwj hc (f2 len (by rw [← hlen]; exact hi)) hd (fun H1 locs1 hP1 hD1 hS1 => ?_)
    rw [f1] at hP1 hD1
    exact fin (some b) H1 locs1 hw hP1 hD1 hS1
end EvD
end KV05_arr
