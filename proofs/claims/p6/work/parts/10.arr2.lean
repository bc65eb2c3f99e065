noncomputable section KV10_arr2
/-! ARRAYS OF ARRAYS (of bytes: their stores; of any: new ones). -/
theorem ev_asta_i {st st' : ev_S} {n tc ta pc' : Nat} (h : ev_asta n tc ta st = some (pc', st')) : ∃ j i k stk len els n2 els2, st.1 = .inr (.inr (some (.inl j))) :: .inl (.ofNat i, .ofNat i) :: .inr (.inr (some (.inl k))) :: stk ∧ ev_tg 5 st.2.2.1.2 k = some (.inr (tc, len, els)) ∧ i < els.length ∧ pc' = n ∧ st' = (stk, st.2.1, (st.2.2.1.1, ev_tS 5 st.2.2.1.2 k (some (.inr (tc, len, els.set i (.inr (.inr (some (.inl j)))))))), st.2.2.2) ∧ ev_tg 5 st.2.2.1.2 j = some (.inr (ta, n2, els2)) := by
  obtain ⟨stk, L, hp, r⟩ := st
  match stk, h with
  | .inr (.inr v) :: .inl (.ofNat i1, i2) :: .inr (.inr (some (.inl k))) :: stk, h =>
    simp only [ev_asta] at h
    split at h
    · next tc' len els hq =>
      obtain ⟨a1, a2, h9⟩ := ev_bt h
      clear h
      rw [decide_eq_true_eq] at a1
      subst a1
      rw [Bool.and_eq_true] at a2
      obtain ⟨a2, a3⟩ := a2
      have e1 : tc' = tc := Nat.eq_of_beq_eq_true a2
      subst e1
      rw [ev_ls_eq, ev_ts_eq] at h9
      by_cases hi : i1 < els.length
      · rw [if_pos hi] at h9
        cases h9
        match v, a3 with
        | some (.inl j), a3 =>
          dsimp only at a3
          split at a3
          · next ta' n2 els2 hj =>
            have e2 : ta' = ta := Nat.eq_of_beq_eq_true a3
            subst e2
            exact ⟨j, i1, k, stk, len, els, n2, els2, rfl, hq, hi, rfl, rfl, hj⟩
          · cases a3
      · rw [if_neg hi] at h9
        cases h9
    · cases h
section EvJ
variable {p : Program} {l : Launch} {e : Env} {R : Room} {s : State} {m : MethodId} {args : Array Value} {below : List Frame} {meth : Method} {c : Code} {Q : State → Prop} {nL : Nat} {D : va_G} {cl : List vw_C} {A : Nat → Prop} {H0 : Heap} {ex : Nat → Value} {ad0 : List Nat} {tyOf : Nat → FieldType}
variable {cc : ByteArray} {pc : Nat}
theorem ev_newA_ok (hx : p.tables.exec = Jvm.exec) (hb : c.code = cc) {own : String} {index tc cm sm : Nat} {t : FieldType} (ho : s.vm.findClass own = some m.cls) (hcl : (Cond.classLink own index (FieldType.array t).toString).before args s = true) (hover : (Cond.arrayOver (.array t)).before args s = true) (htc : tyOf tc = .array t) (hA : ∀ q, H0.size ≤ q → A q) (hcm : cm ≤ R.cells) (hsm : sm ≤ R.slots) (hd : decode cc pc = .ok (.anewarray index, 3)) : ev_Sim p l e R s m args below meth c Q nL D cl A H0 ex ad0 tyOf pc (ev_newa (pc + 3) tc 2 cm sm) := by
  intro st pc' st' h g
  obtain ⟨N, stk, e1, hN, h1, h2, h3, rfl, rfl⟩ := ev_newa_i h
  intro H locs ls lv sv ws tys hK hP hD hS hh hl hn hL hs
  rw [e1] at hs
  obtain ⟨w, r, rfl, ⟨x, rfl, hx1, hx2⟩, hr⟩ := hs
  obtain ⟨f1, f2⟩ := ev_ix hx1 hx2
  have f3 := vp_in_iff.mp (f2 (N + 1) (Nat.lt_succ_self N))
  have h0 : ¬ x < 0 := fun z => by have := Int32.lt_iff_toInt_lt.mp z; rw [Int32.toInt_zero] at this; omega
  refine W.anewA hx hb ho hcl hover rfl hd rfl h0 (by rw [f1]; omega) (Nat.le_trans h2 hcm) (by rw [f1]; exact Nat.le_trans h3 hsm) fun cA kA comp q1 q2 q3 q4 => ?_
  rw [f1]
  generalize hH1 : H.push ({ cls := cA, slots := Array.replicate N .null, vm := .none } : Cell) = H1
  have z1 : H1.size = H.size + 1 := by rw [← hH1, Array.size_push]
  have e2 : H1[H.size]? = some (arrV cA N (fun _ => .null)) := by rw [← hH1, Array.getElem?_push_size, ← arrV_new]
  have o1 : ∀ q : Nat, q < H.size → H1[q]? = H[q]? := fun q hq => by rw [← hH1, Array.getElem?_push, if_neg (Nat.ne_of_lt hq)]
  have hAr : ArrOfT s cA (.array t) := fun N z => ⟨(fun k h => by cases h), kA, q2, comp, q3⟩
  have hk : ∀ (k : Nat) (x : Nat × va_E), ws[k]? = some x → H1[x.1]? = H[x.1]? := fun k x hx => o1 x.1 ((hP k x hx).lt)
  have hP1 : va_P D cl (ws ++ [(H.size, .inl (cA, N, .inr (.inr (.inr (.inr (fun _ => none))))))]) H1 := (hP.kept hk).app (fun k x hx => by
    have hz : k < 1 := (List.getElem?_eq_some_iff.mp hx).1
    rw [show k = 0 by omega] at hx
    cases hx
    show H1[H.size]? = some (vp_cell _ _)
    rw [vp_cell_q]
    exact e2)
  have hK1 : va_K D cl (tys ++ [(cA, .array t)]) s := ⟨hK.1, fun k x hx => by
    by_cases hl : k < tys.length
    · rw [List.getElem?_append_left hl] at hx
      exact hK.2 k x hx
    · rw [List.getElem?_append_right (by omega)] at hx
      have hz : k - tys.length < 1 := (List.getElem?_eq_some_iff.mp hx).1
      rw [show k - tys.length = 0 by omega] at hx
      cases hx
      exact ⟨hAr, q1⟩⟩
  refine g H1 locs ls lv (.ref H.size :: r) _ _ hK1 hP1 (hD.push hP rfl (hA _ hS.1)) ⟨Nat.le_trans hS.1 (by omega), fun x h1 h2 => (o1 x (Nat.lt_of_lt_of_le h1 hS.1)).trans (hS.2.1 x h1 h2), hS.2.2⟩ (ev_hR_push hh h1 ev_app ⟨cA, _, rfl, List.length_replicate, by omega, by rw [htc]; exact ev_one, ?_⟩) hl hn (ev_lR_mono ev_fst_push hL) ⟨_, _, rfl, ⟨H.size, ev_last hh.1, rfl⟩, ev_kR_mono ev_fst_push hr⟩
  rw [htc]
  exact ⟨_, rfl, fun j v hj => by rw [ev_rep hj]; exact rfl⟩
theorem ev_asta_ok (hx : p.tables.exec = Jvm.exec) (hb : c.code = cc) {tc ta : Nat} (hover : (Cond.arrayOver (.array .byte)).before args s = true) (htc : tyOf tc = .array .byte) (hta : tyOf ta = .byte) (hd : decode cc pc = .ok (.aastore, 1)) : ev_Sim p l e R s m args below meth c Q nL D cl A H0 ex ad0 tyOf pc (ev_asta (pc + 1) tc ta) := by
  intro st pc' st' h g
  obtain ⟨j, i, k, stk, len, els, n2, els2, e1, hq, hi, rfl, rfl, hj⟩ := ev_asta_i h
  intro H locs ls lv sv ws tys hK hP hD hS hh hl hn hL hs
  rw [e1] at hs
  obtain ⟨w, r, rfl, hw, w1, r1, rfl, ⟨y, rfl, hy1, hy2⟩, w2, r2, rfl, hw2, hr⟩ := hs
  obtain ⟨a, e2, hwk, rfl⟩ := ev_place hw2
  obtain ⟨cA, x9, rfl, hlen, hlt, ⟨t0, ht0⟩, hel⟩ := ev_cell hh hwk hq
  have ht1 := ht0
  rw [htc] at ht1 hel
  obtain ⟨f, rfl, hf⟩ := hel
  obtain ⟨f1, f2⟩ := ev_ix hy1 hy2
  obtain ⟨b, e3, hwj, rfl⟩ := ev_place hw
  obtain ⟨cB, xB, rfl, -, -, ⟨t2, ht2⟩, helB⟩ := ev_cell hh hwj hj
  rw [hta] at ht2 helB
  obtain ⟨fB, rfl, -⟩ := helB
  have hin : vp_in y len := f2 len (by rw [← hlen]; exact hi)
  have hlt2 : y.toNatClampNeg < len := Nat.not_le.mp fun q => hin (Or.inr q)
  have h0 : ¬ y < 0 := fun q => hin (Or.inl q)
  obtain ⟨comp, cO, kO, c1, -, c3, c4, c5⟩ := arrayOverA_spec (args := args) (first := s) (s := s) (o := none) (idx := []) hover
  have hcA : s.vm.findClass ("[" ++ (FieldType.array .byte).toString) = some cA := (hK.2 t0 _ ht1).2
  have hcB : s.vm.findClass ("[" ++ (FieldType.byte).toString) = some cB := (hK.2 t2 _ ht2).2
  have e4 : cO = cA := Option.some.inj (c5.symm.trans hcA)
  subst e4
  have e5 : comp = cB := Option.some.inj (c1.symm.trans hcB)
  subst e5
  obtain ⟨-, kB, hkB, -⟩ := (hK.2 t2 _ ht2).1 0 (fun _ => .null)
  have hHb : H[b]? = some (arrV comp n2 (fun j => .int (fB j))) := hP j _ hwj
  refine W.aast hx hb (hP k _ hwk) (fun q h => by cases h) (fun h => by cases h) c3 c4 rfl hkB ⟨h0, by show _ < (arrV _ _ _).slots.size; rw [arrV_size]; exact hlt2⟩ hHb (fun q h => by cases h) hkB (va_asg _ _) rfl rfl hd fun H1 e z oq => ?_
  have hP1 : va_P D cl (ws.set k (a, .inl (cO, len, .inr (.inr (.inr (.inr (va_up f i (some b)))))))) H1 := by
    refine hP.set hD hwk ?_ oq
    show H1[a]? = some (vp_cell _ _)
    rw [e]
    rw [vp_cell_q, vp_cell_q, arrV_store]
    congr 2
    funext q
    rw [f1]
    by_cases hq : q = i
    · subst hq
      simp [updV, va_up, va_rf]
    · simp [updV, va_up, hq]
  have ea := ev_fst_set (e' := .inl (cO, len, .inr (.inr (.inr (.inr (va_up f i (some b))))))) hwk
  refine g H1 _ ls lv r2 _ tys hK hP1 (hD.set hwk) (hS.put z oq (hD.2 k _ hwk)) (ev_hR_set hh hwk ⟨cO, _, rfl, by rw [List.length_set]; exact hlen, hlt, ⟨t0, ht0⟩, ?_⟩) hl hn (by rw [ea]; exact hL) (by rw [ea]; exact hr)
  rw [htc]
  refine ⟨_, rfl, fun j2 u hj2 => ?_⟩
  have h9 := ev_upd hf hi hw j2 u hj2
  unfold va_up
  by_cases hji : j2 = i
  · rw [if_pos hji] at h9 ⊢
    exact h9
  · rw [if_neg hji] at h9 ⊢
    exact h9
end EvJ
end KV10_arr2
