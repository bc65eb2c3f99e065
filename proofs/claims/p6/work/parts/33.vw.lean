noncomputable section KV33_vw
/-! METHODS WITH A TABLE OF THEIR OWN AMONG THE OTHERS (called by a name, returning). -/
section EvV
variable {p : Program} {l : Launch} {e : Env} {R : Room} {s : State} {m : MethodId} {args : Array Value} {below : List Frame} {meth : Method} {c : Code} {Q : State → Prop} {nL : Nat} {D : va_G} {cl : List vw_C} {A : Nat → Prop} {ex : Nat → Value} {ad0 : List Nat} {tyOf : Nat → FieldType}
variable {cc : ByteArray} {pc : Nat} {XT : State → Prop} {yOf : Nat → MethodName} {wsOf : Nat → List Cond} {cmOf smOf : Nat → Nat} {d : Nat}
theorem ev_cwVW {own C : String} {index maxL d cm sm : Nat} {y : MethodName} {bytes : ByteArray} {ret : Option FieldType} {hh : List (Nat × Nat × Nat × Nat)} {W0 ws : List Cond} (n : Nat) (hg : W0.all goodWord = true) (ht : ∀ w ∈ W0, w.before args s = true) (hw : ws = Cond.codeWith y bytes maxL ret hh :: W0) (h4 : Cond.codeWith y bytes maxL ret hh ∈ W0) (h5 : Cond.initialized y.cls ∈ W0) (h1 : (Cond.methodLink own index y).before args s = true) (h2 : (Cond.instanceMethod y).before args s = true) (h3 : (Cond.selects C y y).before args s = true)
    (hd : y.cls ≠ "java/lang/invoke/MethodHandle" ∧ y.cls ≠ "java/lang/invoke/VarHandle" ∧ (parseMethodDescriptor y.desc).map (fun d => d.parameters.length) = some n) (hR : d + 1 ≤ R.frames ∧ 8 + (maxL + 11) + 64 * d ≤ R.locals) :
    vx_CVW R s args own C index y bytes maxL ret hh ws ({ frames := d, cells := cm, slots := sm, locals := 64 * d } : Room) cm sm n := by
  refine ⟨⟨rfl, rfl, hR.1, hR.2, pay_in ht (ev_goodInW hg h4 hw), by rw [hw]; exact List.mem_cons_self⟩, ht _ h4, ht _ h5, ⟨hd.1, hd.2.1⟩, fun sig h => ?_, h1, h2, h3⟩
  have h9 := hd.2.2
  rw [h] at h9
  exact (Option.some.inj h9).symm
theorem ev_callVW_ok {own C : String} {index mid n i cm sm maxL : Nat} {bytes : ByteArray} {ret : Option FieldType} {hh0 : List (Nat × Nat × Nat × Nat)} {Ts : List Cond} {r0 : vw_C} {E : ev_E} (S : CallFix p m c cc nL s args Ts own) (hE : ev_Snd l D cl A ex tyOf XT yOf wsOf cmOf smOf d E) (hcm : cm ≤ R.cells) (hsm : sm ≤ R.slots) (hX : ev_Xok A XT) (hXs : XT s) (hA : ∀ q, s.heap.size ≤ q → A q) (hc : cl[i]? = some r0) (hC : r0.1 = C)
    (cw : vx_CVW R s args own C index (yOf mid) bytes maxL ret hh0 (wsOf mid) ({ frames := d, cells := cmOf mid, slots := smOf mid, locals := 64 * d } : Room) (cmOf mid) (smOf mid) n) (hd : decode cc pc = .ok (.invokevirtual index, 3)) : ev_Sim p l e R s m args below meth c Q nL D cl A s.heap ex ad0 tyOf pc (ev_call (pc + 3) mid (n + 1) (cmOf mid) (smOf mid) cm sm (ev_recv i) E) := by
  refine ev_call_gen hE hcm hsm (fun H locs cells slots ls w tys h h' rv as vals rest hK hP hD hS hh hsz hv hlen hr hrest h1 h2 hM => ?_)
  obtain ⟨b, As, rfl, hcell⟩ := ev_recv_ok hr hc hK hP hh hv
  rw [hC] at hcell
  exact vx_runVW S hM cw ⟨ev_blind hX, hcell, ev_start hX hXs hA hK hP hD hS hh⟩ rfl (by simpa using hlen) hsz (by simp) (lv_room hrest) hd ⟨h1, h2⟩
end EvV
theorem ev_run_stop {code : Nat → Option (ev_I ⊕ Nat)} : ∀ (n pc : Nat) (st : ev_S) (k pc1 : Nat) (st1 : ev_S), ev_run code n pc st = some (k, pc1, st1) → code pc1 = some (.inr k)
  | 0, _, _, _, _, _, h => by cases h
  | n + 1, pc, st, k, pc1, st1, h => by
    simp only [ev_run_s] at h
    split at h
    · next f hf =>
      split at h
      · next pc' st' hs => exact ev_run_stop n pc' st' k pc1 st1 h
      · cases h
    · next k' hk =>
      cases h
      exact hk
    · cases h
/-- of a method with or without a table -/
theorem ev_ofB {l : Launch} {y : MethodName} {ws ws' : List Cond} {rm : Room} {Pc : Array Value → State → Prop} {Qc : Array Value → State → Outcome → State → Prop} {mc ms : Nat} {free : Addr → Prop} {cc : ByteArray} {maxL : Nat} {ret : Option FieldType}
    (hy : plainName y.cls = true) (hw : ws = Cond.code y cc maxL ret :: ws' ∨ ∃ hh, ws = Cond.codeWith y cc maxL ret hh :: ws')
    (body : ∀ p e s m args below meth c s₁, BodyLoose p l y (headSpec ws rm) cc maxL ret e s m args below meth c s₁ → c.maxLocals = maxL → Pc args s →
      W p l e (headSpec ws rm).room s m args below meth c s.heap [] 0 0 (MQ below Qc args s mc ms free) (entryFrame m args maxL)) : Met l y ws rm Pc Qc mc ms free := by
  rcases hw with hw | ⟨hh, hw⟩
  · exact Met.ofW hy hw body
  · exact ev_ofWH hy hw body
/-- what the tables of a claim owe -/
def ev_Tab2 (l : Launch) (D : va_G) (cl : List vw_C) (A : Nat → Prop) (ex : Nat → Value) (tyOf : Nat → FieldType) (XT : State → Prop) (yOf : Nat → MethodName) (bOf : Nat → ByteArray) (nLOf : Nat → Nat) (retOf : Nat → Option FieldType) (wsOf : Nat → List Cond) (cmOf smOf : Nat → Nat) (mc : Nat → ev_E → Nat → Option (ev_I ⊕ Nat)) : Prop :=
  ∀ mid : Nat, (∃ E pc x, mc mid E pc = some x) → plainName (yOf mid).cls = true ∧ (∃ ws', wsOf mid = Cond.code (yOf mid) (bOf mid) (nLOf mid) (retOf mid) :: ws' ∨ ∃ hh, wsOf mid = Cond.codeWith (yOf mid) (bOf mid) (nLOf mid) (retOf mid) hh :: ws') ∧
    ∀ (d : Nat) (E : ev_E), 6 ≤ d → ev_Snd l D cl A ex tyOf XT yOf wsOf cmOf smOf d E → ∀ (p : Program) (e : Env) (R : Room) (s : State) (m : MethodId) (args : Array Value) (below : List Frame) (meth : Method) (c : Code) (Q : State → Prop) (ad0 : List Nat),
      p.tables.exec = Jvm.exec → c.code = bOf mid → c.maxLocals = nLOf mid → meth.name = (yOf mid).name → s.vm.findClass (yOf mid).cls = some m.cls → (∀ w ∈ wsOf mid, w.before args s = true) → XT s → (∀ q, s.heap.size ≤ q → A q) → R = ({ frames := d + 1, cells := cmOf mid, slots := smOf mid, locals := 64 * (d + 1) } : Room) →
      (∀ pc f, mc mid E pc = some (.inl f) → ev_Sim p l e R s m args below meth c Q (nLOf mid) D cl A s.heap ex ad0 tyOf pc f) ∧ (∀ pc k, mc mid E pc = some (.inr k) → ev_stop k (bOf mid) pc (retOf mid))
theorem ev_M_ok2 {l : Launch} {D : va_G} {cl : List vw_C} {A : Nat → Prop} {ex : Nat → Value} {tyOf : Nat → FieldType} {XT : State → Prop} {yOf : Nat → MethodName} {bOf : Nat → ByteArray} {nLOf : Nat → Nat} {retOf : Nat → Option FieldType} {wsOf : Nat → List Cond} {cmOf smOf : Nat → Nat} {mc : Nat → ev_E → Nat → Option (ev_I ⊕ Nat)} {fuel : Nat} (hT : ev_Tab2 l D cl A ex tyOf XT yOf bOf nLOf retOf wsOf cmOf smOf mc) :
    ∀ d : Nat, ev_Snd l D cl A ex tyOf XT yOf wsOf cmOf smOf (d + 6) (ev_M mc nLOf cmOf smOf fuel d)
  | 0 => fun mid as h rv h' hE => by cases hE
  | d + 1 => by
    intro mid as h rv h' hE w tys vals hv
    have ih := ev_M_ok2 hT (fuel := fuel) d
    rw [show d + 1 + 6 = d + 6 + 1 by omega]
    simp only [ev_M_s] at hE
    split at hE
    · next k pc1 stk L h1 c1 n1 hrun =>
      obtain ⟨a1, hE9⟩ := ev_bt1 hE
      clear hE
      rw [Bool.and_eq_true, Bool.and_eq_true] at a1
      obtain ⟨a1, a2, a3⟩ := a1
      have eh := ev_out_h hE9
      subst eh
      have hlay : (ev_lay as).length ≤ nLOf mid := Nat.le_of_ble_eq_true a1
      have hex : ∃ E pc x, mc mid E pc = some x := by
        cases fuel with
        | zero => cases hrun
        | succ f =>
          simp only [ev_run_s] at hrun
          split at hrun
          · next g hg => exact ⟨_, _, _, hg⟩
          · next g hg => exact ⟨_, _, _, hg⟩
          · cases hrun
      obtain ⟨hpl, ⟨ws', hws⟩, htab⟩ := hT mid hex
      refine ev_ofB (cc := bOf mid) (maxL := nLOf mid) (ret := retOf mid) hpl hws ?_
      intro p e s m args below meth c s₁ B hml hv0
      obtain ⟨rfl, hP, hK, hD, hA, hh, hXs⟩ := hv0
      have hts := atoms_spec (ws := wsOf mid) B.pre
      have hown : s.vm.findClass (yOf mid).cls = some m.cls := findClass_of_methodNamed B.named
      have hname : meth.name = (yOf mid).name := (name_of_methodNamed B.named B.method).1
      obtain ⟨hsim, hstop⟩ := htab (d + 6) _ (by omega) ih p e _ s m vals.toArray below meth c (MQ below (ev_Qo D cl A ex tyOf (w.map Prod.fst) rv h') vals.toArray s (cmOf mid) (smOf mid) A) (w.map Prod.fst) B.exec B.bytes hml hname hown hts hXs hA rfl
      obtain ⟨hk, hgo⟩ := ev_run_ok (code := mc mid (ev_M mc nLOf cmOf smOf fuel d)) hsim fuel 0 _ k pc1 _ hrun
      have hend := ev_end (l := l) (p := p) (e := e) (R := ({ frames := d + 6 + 1, cells := cmOf mid, slots := smOf mid, locals := 64 * (d + 6 + 1) } : Room)) (s := s) (m := m) (args := vals.toArray) (below := below) (meth := meth) (c := c) (nL := nLOf mid) (D := D) (cl := cl) (A := A) (ex := ex) (tyOf := tyOf) (ad := w.map Prod.fst) (L := L) B.exec B.bytes B.returns B.notSynchronized (hstop pc1 k hk) hE9 (Nat.le_of_ble_eq_true a2) (Nat.le_of_ble_eq_true a3)
      have g0 := hgo hend
      have hl := lv_entry vals (n := nLOf mid) (by rw [ev_lay_len hv]; exact hlay)
      rw [lg_entry_eq]
      exact g0 s.heap [] _ _ [] w tys hK hP hD va_S.rf ⟨hh.1, hh.2.1, fun _ _ z => z, hh.2.2.2⟩ hl (by unfold ev_ent; rw [List.length_append, List.length_replicate]; omega) (ev_ent_ok hv) rfl
    · cases hE
/-- what the tables owe of the places where methods throw -/
def ev_TabX2 (l : Launch) (D : va_G) (cl : List vw_C) (A : Nat → Prop) (ex : Nat → Value) (tyOf : Nat → FieldType) (XT : State → Prop) (yOf : Nat → MethodName) (bOf : Nat → ByteArray) (nLOf : Nat → Nat) (wsOf : Nat → List Cond) (cmOf smOf : Nat → Nat) (mc : Nat → ev_E → Nat → Option (ev_I ⊕ Nat)) (xn : Nat → String) : Prop :=
  ∀ (mid d : Nat) (E : ev_E) (pc k : Nat), 6 ≤ d → 10 ≤ k → mc mid E pc = some (.inr k) → (∃ ws' ret, wsOf mid = Cond.code (yOf mid) (bOf mid) (nLOf mid) ret :: ws') ∧ ∀ (p : Program) (e : Env) (R : Room) (s : State) (m : MethodId) (args : Array Value) (below : List Frame) (meth : Method) (c : Code),
    p.tables.exec = Jvm.exec → c.code = bOf mid → c.maxLocals = nLOf mid → s.vm.findClass (yOf mid).cls = some m.cls → (∀ w ∈ wsOf mid, w.before args s = true) → XT s → R = ({ frames := d + 1, cells := cmOf mid, slots := smOf mid, locals := 64 * (d + 1) } : Room) → (∀ x ∈ c.exceptionTable.toList, False) → meth.locks = false → ev_Thr p l e R s m args below meth c (nLOf mid) A (cmOf mid) (smOf mid) pc (xn k)
theorem ev_MX_ok2 {l : Launch} {D : va_G} {cl : List vw_C} {A : Nat → Prop} {ex : Nat → Value} {tyOf : Nat → FieldType} {XT : State → Prop} {yOf : Nat → MethodName} {bOf : Nat → ByteArray} {nLOf : Nat → Nat} {retOf : Nat → Option FieldType} {wsOf : Nat → List Cond} {cmOf smOf : Nat → Nat} {mc : Nat → ev_E → Nat → Option (ev_I ⊕ Nat)} {fuel : Nat} {xn : Nat → String} (hT : ev_Tab2 l D cl A ex tyOf XT yOf bOf nLOf retOf wsOf cmOf smOf mc) (hTX : ev_TabX2 l D cl A ex tyOf XT yOf bOf nLOf wsOf cmOf smOf mc xn)
    {d : Nat} {E : ev_E} (hd : 6 ≤ d) (hE : ev_Snd l D cl A ex tyOf XT yOf wsOf cmOf smOf d E) : ev_SndX l D cl A ex tyOf XT yOf wsOf cmOf smOf xn (d + 1) (ev_MX mc nLOf cmOf smOf fuel E) := by
  intro mid as h k h' hEX w tys vals hv
  simp only [ev_MX] at hEX
  split at hEX
  · next k1 pc1 stk L h1 c1 n1 hrun =>
    match stk, hEX, hrun with
    | [], hEX, hrun =>
      obtain ⟨a1, hE9⟩ := ev_bt1 hEX
      clear hEX
      cases hE9
      rw [Bool.and_eq_true, Bool.and_eq_true, Bool.and_eq_true] at a1
      obtain ⟨a0, a1, a2, a3⟩ := a1
      have hlay : (ev_lay as).length ≤ nLOf mid := Nat.le_of_ble_eq_true a1
      have hex : ∃ E pc x, mc mid E pc = some x := by
        cases fuel with
        | zero => cases hrun
        | succ f =>
          simp only [ev_run_s] at hrun
          split at hrun
          · next g hg => exact ⟨_, _, _, hg⟩
          · next g hg => exact ⟨_, _, _, hg⟩
          · cases hrun
      obtain ⟨hpl, -, htab⟩ := hT mid hex
      obtain ⟨⟨ws', ret9, hws⟩, hthr9⟩ := hTX mid d E pc1 k hd (Nat.le_of_ble_eq_true a0) (ev_run_stop _ _ _ _ _ _ hrun)
      refine vx_ofW (cc := bOf mid) (maxL := nLOf mid) (ret := ret9) hpl hws ?_
      intro p e s m args below meth c s₁ B hml hno hv0
      obtain ⟨rfl, hP, hK, hD, hA, hh, hXs⟩ := hv0
      have hts := atoms_spec (ws := wsOf mid) B.pre
      have hown : s.vm.findClass (yOf mid).cls = some m.cls := findClass_of_methodNamed B.named
      have hname : meth.name = (yOf mid).name := (name_of_methodNamed B.named B.method).1
      obtain ⟨hsim, -⟩ := htab d E hd hE p e _ s m vals.toArray below meth c (vx_MQ below (fun _ _ _ _ => False) (ev_XC D cl A ex tyOf xn (w.map Prod.fst) k h') vals.toArray s (cmOf mid) (smOf mid) A) (w.map Prod.fst) B.exec B.bytes hml hname hown hts hXs hA rfl
      obtain ⟨hk, hgo⟩ := ev_run_ok (code := mc mid E) hsim fuel 0 _ k pc1 _ hrun
      have hthr := hthr9 p e _ s m vals.toArray below meth c B.exec B.bytes hml hown hts hXs rfl hno B.notSynchronized
      have hl := lv_entry vals (n := nLOf mid) (by rw [ev_lay_len hv]; exact hlay)
      rw [lg_entry_eq]
      refine hgo (fun H locs ls lv sv ws1 tys1 hK1 hP1 hD1 hS1 hh1 hl1 hn1 hL1 hs1 => ?_) s.heap [] _ _ [] w tys hK hP hD va_S.rf ⟨hh.1, hh.2.1, fun _ _ z => z, hh.2.2.2⟩ hl (by unfold ev_ent; rw [List.length_append, List.length_replicate]; omega) (ev_ent_ok hv) rfl
      rw [show sv = [] from hs1]
      exact hthr _ _ H locs ls c1 n1 hS1 hl1.1 (Nat.le_of_ble_eq_true a2) (Nat.le_of_ble_eq_true a3) (fun t hal hz hk9 => ⟨rfl, ⟨ws1, tys1, hP1.kept (fun i x hx => hk9 x.1 (hP1 i x hx).lt), va_K.moved hal hK1, hD1, hh1⟩, Nat.le_trans hS1.1 hz, fun q q1 q2 => (hk9 q (Nat.lt_of_lt_of_le q1 hS1.1)).trans (hS1.2.1 q q1 q2)⟩)
    | v :: stk, hEX, hrun => cases hEX
  · cases hEX
def ev_TabQ2 (l : Launch) (D : va_G) (cl : List vw_C) (A : Nat → Prop) (ex : Nat → Value) (tyOf : Nat → FieldType) (XT : State → Prop) (yOf : Nat → MethodName) (bOf : Nat → ByteArray) (nLOf : Nat → Nat) (retOf : Nat → Option FieldType) (wsOf : Nat → List Cond) (cmOf smOf : Nat → Nat) (mid : Nat) (f : ev_E → Nat → Option (ev_I ⊕ Nat)) : Prop :=
  (∀ E pc, f E pc = none) ∨ (plainName (yOf mid).cls = true ∧ (∃ ws', wsOf mid = Cond.code (yOf mid) (bOf mid) (nLOf mid) (retOf mid) :: ws' ∨ ∃ hh, wsOf mid = Cond.codeWith (yOf mid) (bOf mid) (nLOf mid) (retOf mid) hh :: ws') ∧
    ∀ (d : Nat) (E : ev_E), 6 ≤ d → ev_Snd l D cl A ex tyOf XT yOf wsOf cmOf smOf d E → ∀ (p : Program) (e : Env) (R : Room) (s : State) (m : MethodId) (args : Array Value) (below : List Frame) (meth : Method) (c : Code) (Q : State → Prop) (ad0 : List Nat),
      p.tables.exec = Jvm.exec → c.code = bOf mid → c.maxLocals = nLOf mid → meth.name = (yOf mid).name → s.vm.findClass (yOf mid).cls = some m.cls → (∀ w ∈ wsOf mid, w.before args s = true) → XT s → (∀ q, s.heap.size ≤ q → A q) → R = ({ frames := d + 1, cells := cmOf mid, slots := smOf mid, locals := 64 * (d + 1) } : Room) →
      (∀ pc g, f E pc = some (.inl g) → ev_Sim p l e R s m args below meth c Q (nLOf mid) D cl A s.heap ex ad0 tyOf pc g) ∧ (∀ pc k, f E pc = some (.inr k) → ev_stop k (bOf mid) pc (retOf mid)))
theorem ev_tab_of2 {l : Launch} {D : va_G} {cl : List vw_C} {A : Nat → Prop} {ex : Nat → Value} {tyOf : Nat → FieldType} {XT : State → Prop} {yOf : Nat → MethodName} {bOf : Nat → ByteArray} {nLOf : Nat → Nat} {retOf : Nat → Option FieldType} {wsOf : Nat → List Cond} {cmOf smOf : Nat → Nat} {mc : Nat → ev_E → Nat → Option (ev_I ⊕ Nat)} {ms : List (ev_E → Nat → Option (ev_I ⊕ Nat))}
    (hmc : ∀ (mid : Nat) (E : ev_E) (pc : Nat), mc mid E pc = match ev_lg ms mid with
      | some f => f E pc
      | none => none) (h : ev_okA (fun mid f => ev_TabQ2 l D cl A ex tyOf XT yOf bOf nLOf retOf wsOf cmOf smOf mid f) 0 ms) : ev_Tab2 l D cl A ex tyOf XT yOf bOf nLOf retOf wsOf cmOf smOf mc := by
  intro mid hex
  obtain ⟨E, pc, x, hx⟩ := hex
  rw [hmc] at hx
  cases hf : ev_lg ms mid with
  | none => rw [hf] at hx; cases hx
  | some f =>
    rw [hf] at hx
    have hq := ev_okA_at ms 0 h mid f (by rw [← ev_lg_eq]; exact hf)
    rw [Nat.zero_add] at hq
    rcases hq with hno | ⟨h1, h2, h3⟩
    · have hx : f E pc = some x := hx
      rw [hno] at hx
      cases hx
    · refine ⟨h1, h2, fun d E hd hE p e R s m args below meth c Q ad0 a1 a2 a3 a4 a5 a6 a7 a8 a9 => ?_⟩
      obtain ⟨g1, g2⟩ := h3 d E hd hE p e R s m args below meth c Q ad0 a1 a2 a3 a4 a5 a6 a7 a8 a9
      refine ⟨fun pc g hg => g1 pc g ?_, fun pc k hk => g2 pc k ?_⟩
      · rw [hmc, hf] at hg
        exact hg
      · rw [hmc, hf] at hk
        exact hk
def ev_TabXQ2 (l : Launch) (A : Nat → Prop) (XT : State → Prop) (yOf : Nat → MethodName) (bOf : Nat → ByteArray) (nLOf : Nat → Nat) (wsOf : Nat → List Cond) (cmOf smOf : Nat → Nat) (xn : Nat → String) (mid : Nat) (f : ev_E → Nat → Option (ev_I ⊕ Nat)) : Prop :=
  ∀ (d : Nat) (E : ev_E) (pc k : Nat), 6 ≤ d → 10 ≤ k → f E pc = some (.inr k) → (∃ ws' ret, wsOf mid = Cond.code (yOf mid) (bOf mid) (nLOf mid) ret :: ws') ∧ ∀ (p : Program) (e : Env) (R : Room) (s : State) (m : MethodId) (args : Array Value) (below : List Frame) (meth : Method) (c : Code),
    p.tables.exec = Jvm.exec → c.code = bOf mid → c.maxLocals = nLOf mid → s.vm.findClass (yOf mid).cls = some m.cls → (∀ w ∈ wsOf mid, w.before args s = true) → XT s → R = ({ frames := d + 1, cells := cmOf mid, slots := smOf mid, locals := 64 * (d + 1) } : Room) → (∀ x ∈ c.exceptionTable.toList, False) → meth.locks = false → ev_Thr p l e R s m args below meth c (nLOf mid) A (cmOf mid) (smOf mid) pc (xn k)
theorem ev_tabX_of2 {l : Launch} {D : va_G} {cl : List vw_C} {A : Nat → Prop} {ex : Nat → Value} {tyOf : Nat → FieldType} {XT : State → Prop} {yOf : Nat → MethodName} {bOf : Nat → ByteArray} {nLOf : Nat → Nat} {wsOf : Nat → List Cond} {cmOf smOf : Nat → Nat} {xn : Nat → String} {mc : Nat → ev_E → Nat → Option (ev_I ⊕ Nat)} {ms : List (ev_E → Nat → Option (ev_I ⊕ Nat))}
    (hmc : ∀ (mid : Nat) (E : ev_E) (pc : Nat), mc mid E pc = match ev_lg ms mid with
      | some f => f E pc
      | none => none) (h : ev_okA (fun mid f => ev_TabXQ2 l A XT yOf bOf nLOf wsOf cmOf smOf xn mid f) 0 ms) : ev_TabX2 l D cl A ex tyOf XT yOf bOf nLOf wsOf cmOf smOf mc xn := by
  intro mid d E pc k hd hk hx
  rw [hmc] at hx
  cases hf : ev_lg ms mid with
  | none => rw [hf] at hx; cases hx
  | some f =>
    rw [hf] at hx
    have hq := ev_okA_at ms 0 h mid f (by rw [← ev_lg_eq]; exact hf)
    rw [Nat.zero_add] at hq
    exact hq d E pc k hd hk hx
theorem ev_xno2 {l : Launch} {A : Nat → Prop} {XT : State → Prop} {yOf : Nat → MethodName} {bOf : Nat → ByteArray} {nLOf : Nat → Nat} {wsOf : Nat → List Cond} {cmOf smOf : Nat → Nat} {xn : Nat → String} {mid : Nat} {f : ev_E → Nat → Option (ev_I ⊕ Nat)} (h : ∀ E pc, f E pc = none) : ev_TabXQ2 l A XT yOf bOf nLOf wsOf cmOf smOf xn mid f := by
  intro d E pc k _ _ hx
  rw [h] at hx
  cases hx
theorem ev_nothr2 {l : Launch} {A : Nat → Prop} {XT : State → Prop} {yOf : Nat → MethodName} {bOf : Nat → ByteArray} {nLOf : Nat → Nat} {wsOf : Nat → List Cond} {cmOf smOf : Nat → Nat} {xn : Nat → String} {mid : Nat} {f : ev_E → Nat → Option (ev_I ⊕ Nat)} {t : ev_E → List (List (Option (ev_I ⊕ Nat)))} (h1 : ∀ E, f E = ev_code (t E)) (h2 : ∀ E, ev_lo (t E) = true) : ev_TabXQ2 l A XT yOf bOf nLOf wsOf cmOf smOf xn mid f := by
  intro d E pc k _ hk hx
  rw [h1] at hx
  have h3 : k < 10 := ev_code_at (ev_lo_ok (t E) 0 (h2 E)) (x := .inr k) hx
  omega
end KV33_vw
