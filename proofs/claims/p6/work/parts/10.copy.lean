noncomputable section KV10_copy
/-! System.arraycopy of a whole row of chars to the beginning of another. -/
def ev_ovr {β : Type} : List ev_V → List ev_V → (List ev_V → Option β) → Option β
  | [], m, κ => κ m
  | a :: l, m, κ => match m with
    | [] => none
    | _ :: m' => match a with
      | .inl (lo, hi) => cond (decide (0 ≤ lo) && decide (hi ≤ 65535)) (ev_ovr l m' (fun r => κ (.inl (lo, hi) :: r))) none
      | _ => none
theorem ev_ovr_i {β : Type} : ∀ (l m : List ev_V) (κ : List ev_V → Option β) (y : β), ev_ovr l m κ = some y → ∃ r, κ r = some y ∧ r.length = m.length ∧ l.length ≤ m.length ∧ (∀ (j : Nat) (v : ev_V), l[j]? = some v → ∃ lo hi : Int, v = .inl (lo, hi) ∧ 0 ≤ lo ∧ hi ≤ 65535) ∧ ∀ j : Nat, r[j]? = if j < l.length then l[j]? else m[j]?
  | [], m, κ, y, h => ⟨m, h, rfl, Nat.zero_le _, fun j v hj => by simp at hj, fun j => by simp⟩
  | a :: l, [], κ, y, h => by cases h
  | .inl (lo, hi) :: l, b :: m, κ, y, h => by
    have h : cond (decide (0 ≤ lo) && decide (hi ≤ 65535)) (ev_ovr l m (fun r => κ (.inl (lo, hi) :: r))) none = some y := h
    obtain ⟨a1, a2, h9⟩ := ev_bt h
    rw [decide_eq_true_eq] at a1 a2
    obtain ⟨r, h1, h2, h3, h4, h5⟩ := ev_ovr_i l m _ y h9
    refine ⟨.inl (lo, hi) :: r, h1, by simp [h2], by simp; omega, fun j v hj => ?_, fun j => ?_⟩
    · cases j with
      | zero => cases hj; exact ⟨lo, hi, rfl, a1, a2⟩
      | succ j => exact h4 j v (by simpa using hj)
    · cases j with
      | zero => simp
      | succ j =>
        simp only [List.getElem?_cons_succ, List.length_cons]
        rw [h5 j]
        by_cases hj : j < l.length
        · rw [if_pos hj, if_pos (by omega)]
        · rw [if_neg hj, if_neg (by omega)]
  | .inr a :: l, b :: m, κ, y, h => by cases h
def ev_acopy (n tc : Nat) : ev_I := fun st => match st with
  | (.inl (.ofNat N, N2) :: .inl (d1, d2) :: .inr (.inr (some (.inl kd))) :: .inl (s1, s2) :: .inr (.inr (some (.inl ks))) :: stk, L, (sz, t), r) => match ev_tg 5 t ks, ev_tg 5 t kd with
    | some (.inr (tc0, l0, e0)), some (.inr (tc1, l1, e1)) => cond (Nat.beq tc0 tc && (Nat.beq tc1 tc && (Nat.beq l0 N && (decide (Int.ofNat N = N2) && (decide (d1 = 0) && (decide (d2 = 0) && (decide (s1 = 0) && (decide (s2 = 0) && Nat.ble (ev_cats stk) 8)))))))) (ev_ovr e0 e1 (fun e2 => ev_ts 5 t kd (some (.inr (tc, l1, e2))) (fun t' => some (n, (stk, L, (sz, t'), r))))) none
    | _, _ => none
  | _ => none
section EvCopy
variable {p : Program} {l : Launch} {e : Env} {R : Room} {s : State} {m : MethodId} {args : Array Value} {below : List Frame} {meth : Method} {c : Code} {Q : State → Prop} {nL : Nat} {D : va_G} {cl : List vw_C} {A : Nat → Prop} {H0 : Heap} {ex : Nat → Value} {ad0 : List Nat} {tyOf : Nat → FieldType}
variable {cc : ByteArray} {pc : Nat}
theorem ev_acopy_ok (hx : p.tables.exec = Jvm.exec) (hb : c.code = cc) (hml : c.maxLocals = nL) {own : String} {index tc : Nat} (hown : s.vm.findClass own = some m.cls) (hlink : (Cond.methodLink own index arraycopyName).before args s = true) (hnat : (Cond.native arraycopyName).before args s = true) (hstat : (Cond.static arraycopyName).before args s = true) (hini : (Cond.initialized "java/lang/System").before args s = true)
    (hfr : 1 ≤ R.frames) (hlo : 8 + (nativeFrameWords "java/lang/System" "arraycopy" 5 + 11) ≤ R.locals) (htc : tyOf tc = .char) (hd : decode cc pc = .ok (.invokestatic index, 3)) : ev_Sim p l e R s m args below meth c Q nL D cl A H0 ex ad0 tyOf pc (ev_acopy (pc + 3) tc) := by
  intro st pc' st' h g
  obtain ⟨stk0, L, ⟨sz, t⟩, r⟩ := st
  match stk0, h with
  | .inl (.ofNat N, N2) :: .inl (d1, d2) :: .inr (.inr (some (.inl kd))) :: .inl (s1, s2) :: .inr (.inr (some (.inl ks))) :: stk, h =>
    simp only [ev_acopy] at h
    split at h
    · next tc0 l0 e0 tc1 l1 e1 hq0 hq1 =>
      obtain ⟨a1, h9⟩ := ev_bt1 h
      clear h
      rw [Bool.and_eq_true, Bool.and_eq_true, Bool.and_eq_true, Bool.and_eq_true, Bool.and_eq_true, Bool.and_eq_true, Bool.and_eq_true, Bool.and_eq_true, decide_eq_true_eq, decide_eq_true_eq, decide_eq_true_eq, decide_eq_true_eq, decide_eq_true_eq] at a1
      obtain ⟨b1, b2, b3, b4, b5, b6, b7, b8, b9⟩ := a1
      have b1 := Nat.eq_of_beq_eq_true b1
      have b2 := Nat.eq_of_beq_eq_true b2
      have b3 := Nat.eq_of_beq_eq_true b3
      have b9 := Nat.le_of_ble_eq_true b9
      subst b1 b2 b3 b4 b5 b6 b7 b8
      obtain ⟨e2, h10, hlen2, hle, hch, hget⟩ := ev_ovr_i _ _ _ _ h9
      rw [ev_ts_eq] at h10
      cases h10
      intro H locs ls lv sv ws tys hK hP hD hS hh hl hn hL hs
      obtain ⟨w1, q1, rfl, ⟨x1, rfl, y1, y1'⟩, w2, q2, rfl, ⟨x2, rfl, y2, y2'⟩, w3, q3, rfl, hw3, w4, q4, rfl, ⟨x4, rfl, y4, y4'⟩, w5, q5, rfl, hw5, hr⟩ := hs
      obtain ⟨ad, ed, hwd, rfl⟩ := ev_place hw3
      obtain ⟨as, es, hws, rfl⟩ := ev_place hw5
      obtain ⟨c0, xs0, rfl, hn0, hlt0, ⟨t0, ht0⟩, hel0⟩ := ev_cell hh hws hq0
      obtain ⟨c1, xs1, rfl, hn1, hlt1, ⟨t1, ht1⟩, hel1⟩ := ev_cell hh hwd hq1
      have ht1' := ht1
      rw [htc] at ht0 ht1' hel0 hel1
      obtain ⟨f, rfl, hf⟩ := hel0
      obtain ⟨f1, rfl, hf1⟩ := hel1
      have z2 : x2 = 0 := Int32.toInt_inj.mp (Int.le_antisymm y2' y2)
      have z4 : x4 = 0 := Int32.toInt_inj.mp (Int.le_antisymm y4' y4)
      subst z2 z4
      have zN : x1.toInt = (l0 : Int) := Int.le_antisymm y1' y1
      have zN2 : x1.toNatClampNeg = l0 := by
        show x1.toInt.toNat = l0
        omega
      have zn : ¬ x1 < 0 := by
        rw [Int32.lt_iff_toInt_lt, zN]
        simp
      have hz0 : (0 : Int32).toNatClampNeg = 0 := rfl
      have h8 : (q5.map fun v => v.category).sum ≤ 8 := by rw [ev_cats_ok hr]; exact b9
      refine va_copyi hx hb (hml.trans hl.1.symm) hown hlink hnat hstat hini hK hP hD hS ks kd t0 t1 hws hwd ht0 ht1' rfl (by decide) (by decide) zn (by rw [hz0, zN2]; omega) (by rw [hz0, zN2, ← hn0, ← hn1]; omega) (fun i hi => ?_) hfr (by omega) hd (fun H1 locs1 hP1 hD1 hS1 => ?_)
      · rw [zN2] at hi
        rw [hz0, Nat.zero_add]
        obtain ⟨v, hv⟩ : ∃ v, e0[i]? = some v := ⟨_, List.getElem?_eq_getElem (by omega)⟩
        obtain ⟨lo, hi2, rfl, k1, k2⟩ := hch i v hv
        obtain ⟨x, hx9, k3, k4⟩ := hf i _ hv
        cases hx9
        obtain ⟨q, hq, hqx⟩ : ∃ q : Nat, q < 65536 ∧ f i = nI q := by
          refine ⟨(f i).toInt.toNat, by omega, Int32.toInt_inj.mp ?_⟩
          rw [nI_toInt (by omega)]
          omega
        rw [hqx]
        exact (pk_charN hq).2
      · have ea := ev_fst_set (e' := .inl (c1, l1, .inl (va_cpy f f1 (0 : Int32).toNatClampNeg (0 : Int32).toNatClampNeg x1.toNatClampNeg))) hwd
        refine g H1 locs1 ls lv q5 _ tys hK hP1 hD1 hS1 (ev_hR_set hh hwd ⟨c1, _, rfl, by rw [hlen2]; exact hn1, hlt1, ⟨t1, ht1⟩, ?_⟩) hl hn (by rw [ea]; exact hL) (by rw [ea]; exact hr)
        rw [htc]
        refine ⟨_, rfl, fun j u hj => ?_⟩
        rw [hget j] at hj
        rw [hz0, zN2]
        unfold va_cpy
        by_cases hjl : j < e0.length
        · rw [if_pos hjl] at hj
          rw [if_pos (by omega)]
          have h3 := hf j u hj
          rw [show 0 + (j - 0) = j by omega]
          exact h3
        · rw [if_neg hjl] at hj
          rw [if_neg (by omega)]
          exact hf1 j u hj
    · cases h
end EvCopy
end KV10_copy
