noncomputable section KV39_xk
/-! TABLES WHOSE ROOM IS LEFT OPEN, once more. -/
def k_TbW (l : Launch) (D : va_G) (cl : List vw_C) (A : Nat → Prop) (ex : Nat → Value) (tyOf : Nat → FieldType) (XT : State → Prop) (yOf : Nat → MethodName) (bOf : Nat → ByteArray) (nLOf : Nat → Nat) (retOf : Nat → Option FieldType) (wsOf : Nat → List Cond) (cmOf smOf : Nat → Nat) (k0 mz mid : Nat) (f : ev_E → Nat → Option (ev_I ⊕ Nat)) : Prop :=
  plainName (yOf mid).cls = true ∧ (∃ ws', wsOf mid = Cond.code (yOf mid) (bOf mid) (nLOf mid) (retOf mid) :: ws' ∨ ∃ hh, wsOf mid = Cond.codeWith (yOf mid) (bOf mid) (nLOf mid) (retOf mid) hh :: ws') ∧
    ∀ (d : Nat) (E : ev_E), k0 ≤ d → ev_Snd l D cl A ex tyOf XT yOf wsOf cmOf smOf d E → ∀ (p : Program) (e : Env) (R : Room) (s : State) (m : MethodId) (args : Array Value) (below : List Frame) (meth : Method) (c : Code) (Q : State → Prop) (ad0 : List Nat),
      p.tables.exec = Jvm.exec → c.code = bOf mid → c.maxLocals = nLOf mid → meth.name = (yOf mid).name → s.vm.findClass (yOf mid).cls = some m.cls → (∀ w ∈ wsOf mid, w.before args s = true) → XT s → (∀ q, s.heap.size ≤ q → A q) → (d + 1 ≤ R.frames ∨ (k0 = 0 ∧ ∀ (mid : Nat) (as : List ev_V) (h : ev_Hp), E mid as h = none)) → (mid = mz ∨ 1 ≤ R.frames) → 64 * (d + 1) ≤ R.locals → cmOf mid ≤ R.cells → smOf mid ≤ R.slots →
      (∀ pc g, f E pc = some (.inl g) → ev_Sim p l e R s m args below meth c Q (nLOf mid) D cl A s.heap ex ad0 tyOf pc g) ∧ (∀ pc k, f E pc = some (.inr k) → ev_stop k (bOf mid) pc (retOf mid))
def k_TbQ (l : Launch) (D : va_G) (cl : List vw_C) (A : Nat → Prop) (ex : Nat → Value) (tyOf : Nat → FieldType) (XT : State → Prop) (yOf : Nat → MethodName) (bOf : Nat → ByteArray) (nLOf : Nat → Nat) (retOf : Nat → Option FieldType) (wsOf : Nat → List Cond) (cmOf smOf : Nat → Nat) (k0 mz mid : Nat) (f : ev_E → Nat → Option (ev_I ⊕ Nat)) : Prop :=
  (∀ E pc, f E pc = none) ∨ k_TbW l D cl A ex tyOf XT yOf bOf nLOf retOf wsOf cmOf smOf k0 mz mid f
def k_Tb (l : Launch) (D : va_G) (cl : List vw_C) (A : Nat → Prop) (ex : Nat → Value) (tyOf : Nat → FieldType) (XT : State → Prop) (yOf : Nat → MethodName) (bOf : Nat → ByteArray) (nLOf : Nat → Nat) (retOf : Nat → Option FieldType) (wsOf : Nat → List Cond) (cmOf smOf : Nat → Nat) (k0 mz : Nat) (mc : Nat → ev_E → Nat → Option (ev_I ⊕ Nat)) : Prop :=
  ∀ mid : Nat, (∃ E pc x, mc mid E pc = some x) → k_TbW l D cl A ex tyOf XT yOf bOf nLOf retOf wsOf cmOf smOf k0 mz mid (mc mid)
section KTb2
variable {l : Launch} {D : va_G} {cl : List vw_C} {A : Nat → Prop} {ex : Nat → Value} {tyOf : Nat → FieldType} {XT : State → Prop} {yOf : Nat → MethodName} {bOf : Nat → ByteArray} {nLOf : Nat → Nat} {retOf : Nat → Option FieldType} {wsOf : Nat → List Cond} {cmOf smOf : Nat → Nat} {k0 mz mid : Nat}
theorem k_upp {f : ev_E → Nat → Option (ev_I ⊕ Nat)} (h : k_TbQ l D cl A ex tyOf XT yOf bOf nLOf retOf wsOf cmOf smOf 0 mz mid f) : k_TbQ l D cl A ex tyOf XT yOf bOf nLOf retOf wsOf cmOf smOf k0 mz mid f := by
  rcases h with h | ⟨h1, h2, h3⟩
  · exact Or.inl h
  · exact Or.inr ⟨h1, h2, fun d E _ hE p e R s m args below meth c Q ad0 a1 a2 a3 a4 a5 a6 a7 a8 a9 => h3 d E (Nat.zero_le _) hE p e R s m args below meth c Q ad0 a1 a2 a3 a4 a5 a6 a7 a8 (a9.imp_right fun h => ⟨rfl, h.2⟩)⟩
theorem k_tb_of {mc : Nat → ev_E → Nat → Option (ev_I ⊕ Nat)} {ms : List (ev_E → Nat → Option (ev_I ⊕ Nat))}
    (hmc : ∀ (mid : Nat) (E : ev_E) (pc : Nat), mc mid E pc = match ev_lg ms mid with
      | some f => f E pc
      | none => none) (h : ev_okA (fun mid f => k_TbQ l D cl A ex tyOf XT yOf bOf nLOf retOf wsOf cmOf smOf k0 mz mid f) 0 ms) : k_Tb l D cl A ex tyOf XT yOf bOf nLOf retOf wsOf cmOf smOf k0 mz mc := by
  intro mid hex
  obtain ⟨E, pc, x, hx⟩ := hex
  rw [hmc] at hx
  cases hf : ev_lg ms mid with
  | none => rw [hf] at hx; cases hx
  | some f =>
    rw [hf] at hx
    have hq := ev_okA_at ms 0 h mid f (by rw [← ev_lg_eq]; exact hf)
    rw [Nat.zero_add] at hq
    rcases hq with hno | ⟨h1, h2, h3⟩
    · have hx : f E pc = some x := hx
      rw [hno] at hx
      cases hx
    · refine ⟨h1, h2, fun d E hd hE p e R s m args below meth c Q ad0 a1 a2 a3 a4 a5 a6 a7 a8 a9 b1 b2 b3 b4 => ?_⟩
      obtain ⟨g1, g2⟩ := h3 d E hd hE p e R s m args below meth c Q ad0 a1 a2 a3 a4 a5 a6 a7 a8 a9 b1 b2 b3 b4
      refine ⟨fun pc g hg => g1 pc g ?_, fun pc k hk => g2 pc k ?_⟩
      · rw [hmc, hf] at hg
        exact hg
      · rw [hmc, hf] at hk
        exact hk
/-- one level: a method with the evaluator of its callees -/
def k_Lv (mc : Nat → ev_E → Nat → Option (ev_I ⊕ Nat)) (nLOf cmOf smOf : Nat → Nat) (fuel : Nat) (E : ev_E) : ev_E := fun mid as h => match ev_run (mc mid E) fuel 0 ([], ev_ent (nLOf mid) as, h, (0, 0)) with
  | some (k, _, (stk, _, h', (c1, n1))) => cond (Nat.ble (ev_lay as).length (nLOf mid) && (Nat.ble c1 (cmOf mid) && Nat.ble n1 (smOf mid))) (ev_out k stk h') none
  | none => none
theorem k_Lv_ok {mc : Nat → ev_E → Nat → Option (ev_I ⊕ Nat)} {fuel : Nat} (hT : k_Tb l D cl A ex tyOf XT yOf bOf nLOf retOf wsOf cmOf smOf k0 mz mc) {d : Nat} {E : ev_E} (hd : k0 ≤ d) (hEs : ev_Snd l D cl A ex tyOf XT yOf wsOf cmOf smOf d E) : ev_Snd l D cl A ex tyOf XT yOf wsOf cmOf smOf (d + 1) (k_Lv mc nLOf cmOf smOf fuel E) := by
  intro mid as h rv h' hE w tys vals hv
  simp only [k_Lv] at hE
  split at hE
  · next k pc1 stk L h1 c1 n1 hrun =>
    obtain ⟨a1, hE9⟩ := ev_bt1 hE
    clear hE
    rw [Bool.and_eq_true, Bool.and_eq_true] at a1
    obtain ⟨a1, a2, a3⟩ := a1
    have eh := ev_out_h hE9
    subst eh
    have hlay : (ev_lay as).length ≤ nLOf mid := Nat.le_of_ble_eq_true a1
    have hex : ∃ E pc x, mc mid E pc = some x := by
      cases fuel with
      | zero => cases hrun
      | succ f =>
        simp only [ev_run_s] at hrun
        split at hrun
        · next g hg => exact ⟨_, _, _, hg⟩
        · next g hg => exact ⟨_, _, _, hg⟩
        · cases hrun
    obtain ⟨hpl, ⟨ws', hws⟩, htab⟩ := hT mid hex
    refine ev_ofB (cc := bOf mid) (maxL := nLOf mid) (ret := retOf mid) hpl hws ?_
    intro p e s m args below meth c s₁ B hml hv0
    obtain ⟨rfl, hP, hK, hD, hA, hh, hXs⟩ := hv0
    have hts := atoms_spec (ws := wsOf mid) B.pre
    have hown : s.vm.findClass (yOf mid).cls = some m.cls := findClass_of_methodNamed B.named
    have hname : meth.name = (yOf mid).name := (name_of_methodNamed B.named B.method).1
    obtain ⟨hsim, hstop⟩ := htab d E hd hEs p e ({ frames := d + 1, cells := cmOf mid, slots := smOf mid, locals := 64 * (d + 1) } : Room) s m vals.toArray below meth c (MQ below (ev_Qo D cl A ex tyOf (w.map Prod.fst) rv h') vals.toArray s (cmOf mid) (smOf mid) A) (w.map Prod.fst) B.exec B.bytes hml hname hown hts hXs hA (Or.inl (Nat.le_refl _)) (Or.inr (Nat.le_add_left _ _)) (Nat.le_refl _) (Nat.le_refl _) (Nat.le_refl _)
    obtain ⟨hk, hgo⟩ := ev_run_ok (code := mc mid E) hsim fuel 0 _ k pc1 _ hrun
    have hend := ev_end (l := l) (p := p) (e := e) (R := ({ frames := d + 1, cells := cmOf mid, slots := smOf mid, locals := 64 * (d + 1) } : Room)) (s := s) (m := m) (args := vals.toArray) (below := below) (meth := meth) (c := c) (nL := nLOf mid) (D := D) (cl := cl) (A := A) (ex := ex) (tyOf := tyOf) (ad := w.map Prod.fst) (L := L) B.exec B.bytes B.returns B.notSynchronized (hstop pc1 k hk) hE9 (Nat.le_of_ble_eq_true a2) (Nat.le_of_ble_eq_true a3)
    have g0 := hgo hend
    have hl := lv_entry vals (n := nLOf mid) (by rw [ev_lay_len hv]; exact hlay)
    rw [lg_entry_eq]
    exact g0 s.heap [] _ _ [] w tys hK hP hD va_S.rf ⟨hh.1, hh.2.1, fun _ _ z => z, hh.2.2.2⟩ hl (by unfold ev_ent; rw [List.length_append, List.length_replicate]; omega) (ev_ent_ok hv) rfl
  · cases hE
theorem k_Mv_ok {mc : Nat → ev_E → Nat → Option (ev_I ⊕ Nat)} {fuel : Nat} (hT : k_Tb l D cl A ex tyOf XT yOf bOf nLOf retOf wsOf cmOf smOf k0 mz mc) : ∀ d : Nat, ev_Snd l D cl A ex tyOf XT yOf wsOf cmOf smOf (d + k0) (ev_M mc nLOf cmOf smOf fuel d)
  | 0 => fun mid as h rv h' hE => by cases hE
  | d + 1 => by
    have h := k_Lv_ok (fuel := fuel) hT (d := d + k0) (by omega) (k_Mv_ok (fuel := fuel) hT d)
    rw [show d + 1 + k0 = d + k0 + 1 by omega]
    exact h
end KTb2
end KV39_xk
