noncomputable section KV32_xt
/-! WHAT IS SAID OF THINGS OUTSIDE (words, literals, statics): it holds wherever nothing outside the world has changed. Lists of methods. -/
def ev_xn (k : Nat) : String := match k with
  | 10 => "java/lang/IllegalArgumentException"
  | _ => "java/lang/IllegalStateException"
def ev_lb (j : Nat) : List Int := match ev_lg ev_lits j with
  | some l => l
  | none => []
def ev_Lit (A : Nat → Prop) (ex : Nat → Value) (U : State) (H : Heap) : Prop := ∀ j : Nat, j < 73 → ∃ q a : Nat, ex (2 * j) = .ref q ∧ ex (2 * j + 1) = .ref a ∧ va_O "java/lang/String" q A U H ∧ va_OF "java/lang/String" "coder" "B" (.int 0) q A U H ∧ va_OF "java/lang/String" "value" "[B" (.ref a) q A U H ∧ va_T .byte a (ev_lb j).length (fun i => .int (Int32.ofInt ((ev_lb j).getD i 0))) A U H
def ev_XT (A : Nat → Prop) (ex : Nat → Value) (s : State) : Prop :=
  (∀ w ∈ ev_N, va_Nw w s) ∧ (∀ q ∈ ev_Ls, ∃ a, ex q.2.2.2 = .ref a ∧ vk_R q.1 q.2.1 q.2.2.1 a s) ∧ ev_Lit A ex s s.heap ∧ va_Z "java/lang/String" "COMPACT_STRINGS" "Z" (.int 1) A s s.heap ∧
  (va_Z "jdk/internal/util/Preconditions" "SIOOBE_FORMATTER" "Ljava/util/function/BiFunction;" (ex 2000) A s s.heap ∧ (ex 2000 = .null ∨ ∃ a, ex 2000 = .ref a)) ∧
  (va_Z "java/util/ArrayList" "DEFAULTCAPACITY_EMPTY_ELEMENTDATA" "[Ljava/lang/Object;" (ex 2001) A s s.heap ∧ (ex 2001 = .null ∨ ∃ a, ex 2001 = .ref a)) ∧
  vx_Zq Bundle.tN "UNASSIGNED_STACK" Bundle.steD A s s.heap ∧ vx_Zq Bundle.tN "SUPPRESSED_SENTINEL" Bundle.listD A s s.heap ∧ va_Nc "java/lang/IllegalArgumentException" "java/lang/IllegalStateException" s
def ev_nk (w : Cond) : Bool := match w with
  | .fieldLinkNest .. => true
  | .methodLinkNest .. => true
  | .arrayOver _ => true
  | .castable .. => true
  | .declares _ => true
  | _ => false
theorem ev_nk_warm {w : Cond} {s U : State} (h : ev_nk w = true) (hW : s.WarmedH U.vm) (hw : va_Nw w s) : va_Nw w U := by
  cases w with
  | fieldLinkNest => exact va_Nw.warmF hW hw
  | methodLinkNest => exact va_Nw.warmM hW hw
  | castable => exact va_Nw.warmC hW hw
  | declares => exact va_Nw.warmD hW hw
  | arrayOver t =>
    have e : (Cond.arrayOver t).before #[] (s.setVm U.vm) = (Cond.arrayOver t).before #[] s := Cond.arrayOver_setVmC hW.alike t
    exact e.trans hw
  | _ => simp [ev_nk] at h
theorem ev_nk_of {w : Cond} {s : State} {a : Array Value} (h : ev_nk w = true) (hw : w.before a s = true) : va_Nw w s := by
  cases w with
  | fieldLinkNest => exact va_Nw.of rfl hw
  | methodLinkNest => exact va_Nw.of rfl hw
  | castable => exact va_Nw.of rfl hw
  | declares => exact va_Nw.of rfl hw
  | arrayOver t => exact hw
  | _ => simp [ev_nk] at h
theorem ev_Nk : ev_N.all ev_nk = true := by decide +kernel
theorem ev_XT_ok {A : Nat → Prop} {ex : Nat → Value} : ev_Xok A (ev_XT A ex) := by
  intro s U hW hz hk h
  obtain ⟨h1, h2, h3, h4, ⟨h5, h5'⟩, ⟨h6, h6'⟩, h7, h8, h9⟩ := h
  have hal := hW.alike
  refine ⟨fun w hw => ev_nk_warm (List.all_eq_true.mp ev_Nk w hw) hW (h1 w hw), fun q hq => ?_, fun j hj => ?_, (va_Z.moved hal h4).kept hk, ⟨(va_Z.moved hal h5).kept hk, h5'⟩, ⟨(va_Z.moved hal h6).kept hk, h6'⟩, (vx_Zq.moved hal h7).kept hk, (vx_Zq.moved hal h8).kept hk, va_Nc.moved hal h9⟩
  · obtain ⟨a, e1, e2⟩ := h2 q hq
    exact ⟨a, e1, e2.warm hW⟩
  · obtain ⟨q, a, e1, e2, e3, e4, e5, e6⟩ := h3 j hj
    exact ⟨q, a, e1, e2, (va_O.moved hal e3).kept hk, (va_OF.moved hal e4).kept hk, (va_OF.moved hal e5).kept hk, (va_T.moved hal e6).kept hk⟩
theorem ev_rclit_ok {A : Nat → Prop} {ex : Nat → Value} {s : State} (hXs : ev_XT A ex s) : ∀ (h : ev_Hp) (as : List ev_V), ev_rclit h as = true → ∃ j as', as = .inr (.inr (some (.inr j))) :: as' ∧ ∃ b, ex j = .ref b ∧ ∀ (H : Heap) (locs : List Loc), va_S A s.heap H locs → ∃ cell : Cell, H[b]? = some cell ∧ cell.vm.isStatics = false ∧ s.vm.findClass "java/lang/String" = some cell.cls := by
  intro h as hr
  match as, hr with
  | .inr (.inr (some (.inr j))) :: as', hr =>
    have hr : (Nat.beq (j % 2) 0 && Nat.blt j 146) = true := hr
    rw [Bool.and_eq_true] at hr
    have e1 : j % 2 = 0 := Nat.eq_of_beq_eq_true hr.1
    have e2 : j + 1 ≤ 146 := Nat.le_of_ble_eq_true hr.2
    obtain ⟨q, a, h1, -, h3, -⟩ := hXs.2.2.1 (j / 2) (by omega)
    rw [show 2 * (j / 2) = j by omega] at h1
    refine ⟨j, as', rfl, q, h1, fun H locs hS => ?_⟩
    obtain ⟨cell, c1, c2, c3, -⟩ := h3.kept hS.2.1
    exact ⟨cell, c1, c2, c3⟩
theorem ev_lit_value_ok {A : Nat → Prop} {ex : Nat → Value} {s : State} (hXs : ev_XT A ex s) : ∀ (j : Nat) (u : ev_V), ev_lit_value j = some u → ∀ q : Nat, ex j = .ref q → ∃ v, va_OF "java/lang/String" "value" "[B" v q A s s.heap ∧ ∀ ad : List Nat, ev_vR ad ex u v := by
  intro j u hu q hq
  obtain ⟨e0, e1, e2⟩ := ev_bt hu
  have e0 : j % 2 = 0 := Nat.eq_of_beq_eq_true e0
  have e1 : j + 1 ≤ 146 := Nat.le_of_ble_eq_true e1
  cases e2
  obtain ⟨q', a, h1, h2, -, -, h5, -⟩ := hXs.2.2.1 (j / 2) (by omega)
  rw [show 2 * (j / 2) = j by omega] at h1 h2
  rw [hq] at h1
  cases h1
  exact ⟨.ref a, h5, fun ad => ⟨h2.symm, Or.inr ⟨a, rfl⟩⟩⟩
theorem ev_lit_value_nn {A : Nat → Prop} {ex : Nat → Value} {s : State} (hXs : ev_XT A ex s) : ∀ (j : Nat) (u : ev_V), ev_lit_value j = some u → ¬ ex j = .null := by
  intro j u hu hn
  obtain ⟨e0, e1, e2⟩ := ev_bt hu
  have e0 : j % 2 = 0 := Nat.eq_of_beq_eq_true e0
  have e1 : j + 1 ≤ 146 := Nat.le_of_ble_eq_true e1
  obtain ⟨q', a, h1, -⟩ := hXs.2.2.1 (j / 2) (by omega)
  rw [show 2 * (j / 2) = j by omega, hn] at h1
  cases h1
theorem ev_lit_coder_ok {A : Nat → Prop} {ex : Nat → Value} {s : State} (hXs : ev_XT A ex s) : ∀ (j : Nat) (u : ev_V), ev_lit_coder j = some u → ∀ q : Nat, ex j = .ref q → ∃ v, va_OF "java/lang/String" "coder" "B" v q A s s.heap ∧ ∀ ad : List Nat, ev_vR ad ex u v := by
  intro j u hu q hq
  obtain ⟨e0, e1, e2⟩ := ev_bt hu
  have e0 : j % 2 = 0 := Nat.eq_of_beq_eq_true e0
  have e1 : j + 1 ≤ 146 := Nat.le_of_ble_eq_true e1
  cases e2
  obtain ⟨q', a, h1, h2, -, h4, -⟩ := hXs.2.2.1 (j / 2) (by omega)
  rw [show 2 * (j / 2) = j by omega] at h1
  rw [hq] at h1
  cases h1
  exact ⟨.int 0, h4, fun ad => ⟨0, rfl, by decide, by decide⟩⟩
theorem ev_lit_coder_nn {A : Nat → Prop} {ex : Nat → Value} {s : State} (hXs : ev_XT A ex s) : ∀ (j : Nat) (u : ev_V), ev_lit_coder j = some u → ¬ ex j = .null := by
  intro j u hu hn
  obtain ⟨e0, e1, e2⟩ := ev_bt hu
  have e0 : j % 2 = 0 := Nat.eq_of_beq_eq_true e0
  have e1 : j + 1 ≤ 146 := Nat.le_of_ble_eq_true e1
  obtain ⟨q', a, h1, -⟩ := hXs.2.2.1 (j / 2) (by omega)
  rw [show 2 * (j / 2) = j by omega, hn] at h1
  cases h1
theorem ev_lits_n : ev_lits.length = 73 := rfl
theorem ev_lits_ok : ev_lits.all (fun l => Nat.ble l.length 1000 && l.all (fun z => decide (0 ≤ z) && decide (z ≤ 127))) = true := by decide +kernel
theorem ev_lit_row {j : Nat} {l : List Int} (h : ev_lg ev_lits j = some l) : j < 73 ∧ ev_lb j = l ∧ l.length ≤ 1000 ∧ ∀ z ∈ l, 0 ≤ z ∧ z ≤ 127 := by
  have h1 : ev_lits[j]? = some l := by rw [← ev_lg_eq]; exact h
  have h2 := List.all_eq_true.mp ev_lits_ok l (List.mem_of_getElem? h1)
  rw [Bool.and_eq_true] at h2
  refine ⟨by rw [← ev_lits_n]; exact (List.getElem?_eq_some_iff.mp h1).1, by unfold ev_lb; rw [h], Nat.le_of_ble_eq_true h2.1, fun z hz => ?_⟩
  have h3 := List.all_eq_true.mp h2.2 z hz
  rw [Bool.and_eq_true, decide_eq_true_eq, decide_eq_true_eq] at h3
  exact h3
theorem ev_lit_len_ok {A : Nat → Prop} {ex : Nat → Value} {s : State} (hXs : ev_XT A ex s) : ∀ j len : Nat, ev_lit_len j = some len → len < 2147483648 ∧ ∃ q : Nat, ex j = .ref q ∧ ∃ f, va_T .byte q len f A s s.heap := by
  intro j len hu
  obtain ⟨e0, e2⟩ := ev_bt1 hu
  have e0 : j % 2 = 1 := Nat.eq_of_beq_eq_true e0
  cases hl : ev_lg ev_lits (j / 2) with
  | none => rw [hl] at e2; cases e2
  | some l =>
    rw [hl] at e2
    cases e2
    obtain ⟨r1, r2, r3, r4⟩ := ev_lit_row hl
    obtain ⟨q, a, -, h2, -, -, -, h6⟩ := hXs.2.2.1 (j / 2) r1
    rw [show 2 * (j / 2) + 1 = j by omega] at h2
    rw [r2] at h6
    exact ⟨by omega, a, h2, _, h6⟩
theorem ev_lit_at_ok {A : Nat → Prop} {ex : Nat → Value} {s : State} (hXs : ev_XT A ex s) : ∀ (j i : Nat) (z : Int), ev_lit_at j i = some z → ∃ q : Nat, ex j = .ref q ∧ ∃ N f, va_T .byte q N f A s s.heap ∧ i < N ∧ ∃ x : Int32, f i = .int x ∧ x.toInt = z := by
  intro j i z hu
  obtain ⟨e0, e2⟩ := ev_bt1 hu
  have e0 : j % 2 = 1 := Nat.eq_of_beq_eq_true e0
  cases hl : ev_lg ev_lits (j / 2) with
  | none => rw [hl] at e2; cases e2
  | some l =>
    rw [hl] at e2
    have e3 : l[i]? = some z := by rw [← ev_lg_eq]; exact e2
    obtain ⟨r1, r2, r3, r4⟩ := ev_lit_row hl
    obtain ⟨q, a, -, h2, -, -, -, h6⟩ := hXs.2.2.1 (j / 2) r1
    rw [show 2 * (j / 2) + 1 = j by omega] at h2
    rw [r2] at h6
    have hz := r4 z (List.mem_of_getElem? e3)
    refine ⟨a, h2, _, _, h6, (List.getElem?_eq_some_iff.mp e3).1, Int32.ofInt z, ?_, ?_⟩
    · show Value.int (Int32.ofInt (l.getD i 0)) = _
      rw [List.getD_eq_getElem?_getD, e3]
      rfl
    · rw [Int32.toInt_ofInt, show (Int32.size : Nat) = 4294967296 from rfl, Int.bmod_def]
      split <;> omega
/-! Lists of methods. -/
def ev_okA {α : Type} (Q : Nat → α → Prop) : Nat → List α → Prop
  | _, [] => True
  | k, a :: l => Q k a ∧ ev_okA Q (k + 1) l
theorem ev_okA_at {α : Type} {Q : Nat → α → Prop} : ∀ (l : List α) (k : Nat), ev_okA Q k l → ∀ (i : Nat) (a : α), l[i]? = some a → Q (k + i) a
  | [], k, h, i, a, hi => by simp at hi
  | b :: l, k, h, i, a, hi => by
    match i, hi with
    | 0, hi =>
      cases hi
      exact h.1
    | i + 1, hi =>
      rw [show k + (i + 1) = k + 1 + i by omega]
      exact ev_okA_at l (k + 1) h.2 i a (by simpa using hi)
theorem ev_az {α : Type} {Q : Nat → α → Prop} {k : Nat} : ev_okA Q k [] := trivial
theorem ev_ac {α : Type} {Q : Nat → α → Prop} {k : Nat} {a : α} {l : List α} (h1 : Q k a) (h : ev_okA Q (k + 1) l) : ev_okA Q k (a :: l) := ⟨h1, h⟩
def ev_TabQ (l : Launch) (D : va_G) (cl : List vw_C) (A : Nat → Prop) (ex : Nat → Value) (tyOf : Nat → FieldType) (XT : State → Prop) (yOf : Nat → MethodName) (bOf : Nat → ByteArray) (nLOf : Nat → Nat) (retOf : Nat → Option FieldType) (wsOf : Nat → List Cond) (cmOf smOf : Nat → Nat) (mid : Nat) (f : ev_E → Nat → Option (ev_I ⊕ Nat)) : Prop :=
  (∀ E pc, f E pc = none) ∨ (plainName (yOf mid).cls = true ∧ (∃ ws', wsOf mid = Cond.code (yOf mid) (bOf mid) (nLOf mid) (retOf mid) :: ws') ∧
    ∀ (d : Nat) (E : ev_E), 6 ≤ d → ev_Snd l D cl A ex tyOf XT yOf wsOf cmOf smOf d E → ∀ (p : Program) (e : Env) (R : Room) (s : State) (m : MethodId) (args : Array Value) (below : List Frame) (meth : Method) (c : Code) (Q : State → Prop) (ad0 : List Nat),
      p.tables.exec = Jvm.exec → c.code = bOf mid → c.maxLocals = nLOf mid → meth.name = (yOf mid).name → s.vm.findClass (yOf mid).cls = some m.cls → (∀ w ∈ wsOf mid, w.before args s = true) → XT s → (∀ q, s.heap.size ≤ q → A q) → R = ({ frames := d + 1, cells := cmOf mid, slots := smOf mid, locals := 64 * (d + 1) } : Room) →
      (∀ pc g, f E pc = some (.inl g) → ev_Sim p l e R s m args below meth c Q (nLOf mid) D cl A s.heap ex ad0 tyOf pc g) ∧ (∀ pc k, f E pc = some (.inr k) → ev_stop k (bOf mid) pc (retOf mid)))
theorem ev_tab_of {l : Launch} {D : va_G} {cl : List vw_C} {A : Nat → Prop} {ex : Nat → Value} {tyOf : Nat → FieldType} {XT : State → Prop} {yOf : Nat → MethodName} {bOf : Nat → ByteArray} {nLOf : Nat → Nat} {retOf : Nat → Option FieldType} {wsOf : Nat → List Cond} {cmOf smOf : Nat → Nat} {mc : Nat → ev_E → Nat → Option (ev_I ⊕ Nat)} {ms : List (ev_E → Nat → Option (ev_I ⊕ Nat))}
    (hmc : ∀ (mid : Nat) (E : ev_E) (pc : Nat), mc mid E pc = match ev_lg ms mid with
      | some f => f E pc
      | none => none) (h : ev_okA (fun mid f => ev_TabQ l D cl A ex tyOf XT yOf bOf nLOf retOf wsOf cmOf smOf mid f) 0 ms) : ev_Tab l D cl A ex tyOf XT yOf bOf nLOf retOf wsOf cmOf smOf mc := by
  intro mid hex
  obtain ⟨E, pc, x, hx⟩ := hex
  rw [hmc] at hx
  cases hf : ev_lg ms mid with
  | none => rw [hf] at hx; cases hx
  | some f =>
    rw [hf] at hx
    have hq := ev_okA_at ms 0 h mid f (by rw [← ev_lg_eq]; exact hf)
    rw [Nat.zero_add] at hq
    rcases hq with hno | ⟨h1, h2, h3⟩
    · have hx : f E pc = some x := hx
      rw [hno] at hx
      cases hx
    · refine ⟨h1, h2, fun d E hd hE p e R s m args below meth c Q ad0 a1 a2 a3 a4 a5 a6 a7 a8 a9 => ?_⟩
      obtain ⟨g1, g2⟩ := h3 d E hd hE p e R s m args below meth c Q ad0 a1 a2 a3 a4 a5 a6 a7 a8 a9
      refine ⟨fun pc g hg => g1 pc g ?_, fun pc k hk => g2 pc k ?_⟩
      · rw [hmc, hf] at hg
        exact hg
      · rw [hmc, hf] at hk
        exact hk
def ev_TabHQ (l : Launch) (D : va_G) (cl : List vw_C) (A : Nat → Prop) (ex : Nat → Value) (tyOf : Nat → FieldType) (XT : State → Prop) (yOf : Nat → MethodName) (bOf : Nat → ByteArray) (nLOf : Nat → Nat) (retOf : Nat → Option FieldType) (hOf : Nat → List (Nat × Nat × Nat × Nat)) (wsOf : Nat → List Cond) (cmOf smOf : Nat → Nat) (xn : Nat → String) (mid : Nat) (f : ev_E → ev_X → Nat → Option (ev_I ⊕ Nat)) : Prop :=
  (∀ E EX pc, f E EX pc = none) ∨ (plainName (yOf mid).cls = true ∧ (∃ ws', wsOf mid = Cond.codeWith (yOf mid) (bOf mid) (nLOf mid) (retOf mid) (hOf mid) :: ws') ∧
    ∀ (d : Nat) (E : ev_E) (EX : ev_X), 6 ≤ d → ev_Snd l D cl A ex tyOf XT yOf wsOf cmOf smOf d E → ev_SndX l D cl A ex tyOf XT yOf wsOf cmOf smOf xn d EX → ∀ (p : Program) (e : Env) (R : Room) (s : State) (m : MethodId) (args : Array Value) (below : List Frame) (meth : Method) (c : Code) (Q : State → Prop) (ad0 : List Nat),
      p.tables.exec = Jvm.exec → c.code = bOf mid → c.maxLocals = nLOf mid → c.exceptionTable.toList = tableOf (hOf mid) → s.vm.findClass (yOf mid).cls = some m.cls → (∀ w ∈ wsOf mid, w.before args s = true) → XT s → (∀ q, s.heap.size ≤ q → A q) → R = ({ frames := d + 1, cells := cmOf mid, slots := smOf mid, locals := 64 * (d + 1) } : Room) →
      (∀ pc g, f E EX pc = some (.inl g) → ev_Sim p l e R s m args below meth c Q (nLOf mid) D cl A s.heap ex ad0 tyOf pc g) ∧ (∀ pc k, f E EX pc = some (.inr k) → ev_stop k (bOf mid) pc (retOf mid)))
theorem ev_tabH_of {l : Launch} {D : va_G} {cl : List vw_C} {A : Nat → Prop} {ex : Nat → Value} {tyOf : Nat → FieldType} {XT : State → Prop} {yOf : Nat → MethodName} {bOf : Nat → ByteArray} {nLOf : Nat → Nat} {retOf : Nat → Option FieldType} {hOf : Nat → List (Nat × Nat × Nat × Nat)} {wsOf : Nat → List Cond} {cmOf smOf : Nat → Nat} {xn : Nat → String} {mh : Nat → ev_E → ev_X → Nat → Option (ev_I ⊕ Nat)} {k0 : Nat} {ms : List (ev_E → ev_X → Nat → Option (ev_I ⊕ Nat))}
    (hmc : ∀ (mid : Nat) (E : ev_E) (EX : ev_X) (pc : Nat), mh mid E EX pc = match Nat.ble k0 mid, ev_lg ms (mid - k0) with
      | true, some f => f E EX pc
      | _, _ => none) (h : ev_okA (fun mid f => ev_TabHQ l D cl A ex tyOf XT yOf bOf nLOf retOf hOf wsOf cmOf smOf xn mid f) k0 ms) : ev_TabH l D cl A ex tyOf XT yOf bOf nLOf retOf hOf wsOf cmOf smOf mh xn := by
  intro mid hex
  obtain ⟨E, EX, pc, x, hx⟩ := hex
  rw [hmc] at hx
  cases hk : Nat.ble k0 mid with
  | false => rw [hk] at hx; cases hx
  | true =>
    cases hf : ev_lg ms (mid - k0) with
    | none => rw [hk, hf] at hx; cases hx
    | some f =>
      rw [hk, hf] at hx
      have hq := ev_okA_at ms k0 h (mid - k0) f (by rw [← ev_lg_eq]; exact hf)
      rw [show k0 + (mid - k0) = mid by have := Nat.le_of_ble_eq_true hk; omega] at hq
      rcases hq with hno | ⟨h1, h2, h3⟩
      · have hx : f E EX pc = some x := hx
        rw [hno] at hx
        cases hx
      · refine ⟨h1, h2, fun d E EX hd hE hEX p e R s m args below meth c Q ad0 a1 a2 a3 a4 a5 a6 a7 a8 a9 => ?_⟩
        obtain ⟨g1, g2⟩ := h3 d E EX hd hE hEX p e R s m args below meth c Q ad0 a1 a2 a3 a4 a5 a6 a7 a8 a9
        refine ⟨fun pc g hg => g1 pc g ?_, fun pc k hk9 => g2 pc k ?_⟩
        · rw [hmc, hk, hf] at hg
          exact hg
        · rw [hmc, hk, hf] at hk9
          exact hk9
def ev_TabXQ (l : Launch) (A : Nat → Prop) (XT : State → Prop) (yOf : Nat → MethodName) (bOf : Nat → ByteArray) (nLOf : Nat → Nat) (wsOf : Nat → List Cond) (cmOf smOf : Nat → Nat) (xn : Nat → String) (mid : Nat) (f : ev_E → Nat → Option (ev_I ⊕ Nat)) : Prop :=
  ∀ (d : Nat) (E : ev_E) (pc k : Nat), 6 ≤ d → 10 ≤ k → f E pc = some (.inr k) → ∀ (p : Program) (e : Env) (R : Room) (s : State) (m : MethodId) (args : Array Value) (below : List Frame) (meth : Method) (c : Code),
    p.tables.exec = Jvm.exec → c.code = bOf mid → c.maxLocals = nLOf mid → s.vm.findClass (yOf mid).cls = some m.cls → (∀ w ∈ wsOf mid, w.before args s = true) → XT s → R = ({ frames := d + 1, cells := cmOf mid, slots := smOf mid, locals := 64 * (d + 1) } : Room) → (∀ x ∈ c.exceptionTable.toList, False) → meth.locks = false → ev_Thr p l e R s m args below meth c (nLOf mid) A (cmOf mid) (smOf mid) pc (xn k)
theorem ev_tabX_of {l : Launch} {D : va_G} {cl : List vw_C} {A : Nat → Prop} {ex : Nat → Value} {tyOf : Nat → FieldType} {XT : State → Prop} {yOf : Nat → MethodName} {bOf : Nat → ByteArray} {nLOf : Nat → Nat} {wsOf : Nat → List Cond} {cmOf smOf : Nat → Nat} {xn : Nat → String} {mc : Nat → ev_E → Nat → Option (ev_I ⊕ Nat)} {ms : List (ev_E → Nat → Option (ev_I ⊕ Nat))}
    (hmc : ∀ (mid : Nat) (E : ev_E) (pc : Nat), mc mid E pc = match ev_lg ms mid with
      | some f => f E pc
      | none => none) (h : ev_okA (fun mid f => ev_TabXQ l A XT yOf bOf nLOf wsOf cmOf smOf xn mid f) 0 ms) : ev_TabX l D cl A ex tyOf XT yOf bOf nLOf wsOf cmOf smOf mc xn := by
  intro mid d E pc k hd hk hx
  rw [hmc] at hx
  cases hf : ev_lg ms mid with
  | none => rw [hf] at hx; cases hx
  | some f =>
    rw [hf] at hx
    have hq := ev_okA_at ms 0 h mid f (by rw [← ev_lg_eq]; exact hf)
    rw [Nat.zero_add] at hq
    exact hq d E pc k hd hk hx
theorem ev_xno {l : Launch} {A : Nat → Prop} {XT : State → Prop} {yOf : Nat → MethodName} {bOf : Nat → ByteArray} {nLOf : Nat → Nat} {wsOf : Nat → List Cond} {cmOf smOf : Nat → Nat} {xn : Nat → String} {mid : Nat} {f : ev_E → Nat → Option (ev_I ⊕ Nat)} (h : ∀ E pc, f E pc = none) : ev_TabXQ l A XT yOf bOf nLOf wsOf cmOf smOf xn mid f := by
  intro d E pc k _ _ hx
  rw [h] at hx
  cases hx
def ev_loR : List (Option (ev_I ⊕ Nat)) → Bool
  | [] => true
  | none :: l => ev_loR l
  | some (.inl _) :: l => ev_loR l
  | some (.inr k) :: l => Nat.blt k 10 && ev_loR l
def ev_lo : List (List (Option (ev_I ⊕ Nat))) → Bool
  | [] => true
  | r :: t => ev_loR r && ev_lo t
theorem ev_loR_ok : ∀ (l : List (Option (ev_I ⊕ Nat))) (pc : Nat), ev_loR l = true → ev_okR (fun _ _ => True) (fun _ k => k < 10) pc l
  | [], _, _ => trivial
  | none :: l, pc, h => ev_loR_ok l (pc + 1) h
  | some (.inl _) :: l, pc, h => ⟨trivial, ev_loR_ok l (pc + 1) h⟩
  | some (.inr k) :: l, pc, h => by
    have h : (Nat.blt k 10 && ev_loR l) = true := h
    rw [Bool.and_eq_true] at h
    exact ⟨Nat.le_of_ble_eq_true h.1, ev_loR_ok l (pc + 1) h.2⟩
theorem ev_lo_ok : ∀ (t : List (List (Option (ev_I ⊕ Nat)))) (pc : Nat), ev_lo t = true → ev_okL (fun _ _ => True) (fun _ k => k < 10) pc t
  | [], _, _ => trivial
  | r :: t, pc, h => by
    have h : (ev_loR r && ev_lo t) = true := h
    rw [Bool.and_eq_true] at h
    exact ⟨ev_loR_ok r pc h.1, ev_lo_ok t (pc + 16) h.2⟩
theorem ev_nothr {l : Launch} {A : Nat → Prop} {XT : State → Prop} {yOf : Nat → MethodName} {bOf : Nat → ByteArray} {nLOf : Nat → Nat} {wsOf : Nat → List Cond} {cmOf smOf : Nat → Nat} {xn : Nat → String} {mid : Nat} {f : ev_E → Nat → Option (ev_I ⊕ Nat)} {t : ev_E → List (List (Option (ev_I ⊕ Nat)))} (h1 : ∀ E, f E = ev_code (t E)) (h2 : ∀ E, ev_lo (t E) = true) : ev_TabXQ l A XT yOf bOf nLOf wsOf cmOf smOf xn mid f := by
  intro d E pc k _ hk hx
  rw [h1] at hx
  have h3 : k < 10 := ev_code_at (ev_lo_ok (t E) 0 (h2 E)) (x := .inr k) hx
  omega
end KV32_xt
