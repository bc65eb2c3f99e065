noncomputable section KV50_k3
/-! CALLS OF WHAT NEVER RETURNS, kind by kind; a call where the stack is full. -/
def k_Y (s : State) (y : MethodName) (maxL : Nat) : Prop := ∀ mk, s.methodNamed? y = some mk → ∃ methY cY, s.vm.method? mk = some methY ∧ methY.code = some cY ∧ cY.maxLocals = maxL ∧ parseMethodDescriptor y.desc = some methY.sig
theorem k_Y_of {s : State} {args : Array Value} {y : MethodName} {bytes : ByteArray} {maxL : Nat} {ret : Option FieldType} (h : (Cond.code y bytes maxL ret).before args s = true ∨ ∃ hh, (Cond.codeWith y bytes maxL ret hh).before args s = true) : k_Y s y maxL := by
  intro mk hn
  rcases h with h | ⟨hh, h⟩
  · obtain ⟨meth, c, h1, h2, -, h4, -, -, -, h8⟩ := Cond.code_spec hn h
    exact ⟨meth, c, h1, h2, h4, h8⟩
  · obtain ⟨m9, meth, c, hn9, h1, h2, -, h4, -, -, -, h8⟩ := Cond.codeWith_spec h
    cases hn.symm.trans hn9
    exact ⟨meth, c, h1, h2, h4, h8⟩
theorem k_Y_named {s : State} {args : Array Value} {y : MethodName} {bytes : ByteArray} {maxL : Nat} {ret : Option FieldType} (h : (Cond.code y bytes maxL ret).before args s = true ∨ ∃ hh, (Cond.codeWith y bytes maxL ret hh).before args s = true) : ∃ mk, s.methodNamed? y = some mk := by
  rcases h with h | ⟨hh, h⟩
  · exact Cond.code_named h
  · obtain ⟨m9, -, -, hn9, -⟩ := Cond.codeWith_spec h
    exact ⟨m9, hn9⟩
section KRun
variable {p : Program} {l : Launch} {e : Env} {R : Room} {s : State} {m : MethodId} {args : Array Value} {below : List Frame} {meth : Method} {c : Code} {H : Heap} {locs : List Loc} {cells slots : Nat}
  {Ts ws : List Cond} {cc bytes : ByteArray} {nL maxL index n : Nat} {own C host : String} {y : MethodName} {ret : Option FieldType} {rm : Room} {Pc : Array Value → State → Prop}
  {b : Addr} {As rest : List Value} {g : JFrame}
/-- what is asked of a callee that never returns -/
def k_Ask (R : Room) (s : State) (args : Array Value) (cells slots : Nat) (y : MethodName) (bytes : ByteArray) (maxL : Nat) (ret : Option FieldType) (ws : List Cond) (rm : Room) (n : Nat) : Prop :=
  rm.frames + 1 = R.frames ∧ 8 + (maxL + 11) + rm.locals ≤ R.locals ∧ cells + rm.cells ≤ R.cells ∧ slots + rm.slots ≤ R.slots ∧ (∀ w ∈ ws, ∀ (a' : Array Value) (U : State), s.WarmedH U.vm → w.before a' U = true) ∧
  ((Cond.code y bytes maxL ret).before args s = true ∨ ∃ hh, (Cond.codeWith y bytes maxL ret hh).before args s = true) ∧ (Cond.initialized y.cls).before args s = true ∧ (y.cls ≠ "java/lang/invoke/MethodHandle" ∧ y.cls ≠ "java/lang/invoke/VarHandle") ∧ (∀ sig, parseMethodDescriptor y.desc = some sig → n = sig.parameters.length)
theorem k_runV (S : CallFix p m c cc nL s args Ts own) (hM : k_Met l y ws rm Pc) (ha : k_Ask R s args cells slots y bytes maxL ret ws rm n) (hl : (Cond.methodLink own index y).before args s = true ∨ (Cond.methodLinkNest own index y host).before args s = true) (hin : (Cond.instanceMethod y).before args s = true) (hse : (Cond.selects C y y).before args s = true) (hp : PreV s H C b Pc As)
    (hg : g.method = m) (hn : As.length = n) (hsize : g.locals.size = nL) (hstack : g.stack = As.reverse ++ .ref b :: rest) (hW : 2 * g.monitorRoom + (rest.map fun v => v.category).sum ≤ 8) (hdg : decode cc g.pc = .ok (.invokevirtual index, 3)) (hX : k_X e s R.frames) :
    W p l e R s m args below meth c H locs cells slots k_Q g := by
  obtain ⟨a1, a2, a3, a4, a5, a6, a7, a8, a9⟩ := ha
  obtain ⟨hx, hb, hml, ho, -⟩ := S
  obtain ⟨hbl, ⟨cellB, hcB, hoB, hclB⟩, hPc⟩ := hp
  intro T hT X
  obtain ⟨mk, methM, hnamed, hmethM, hstM, habM⟩ := Cond.instanceMethod_spec hin
  obtain ⟨methY, cY, hmY, hcY, hlY, hsig⟩ := k_Y_of a6 mk hnamed
  cases hmethM.symm.trans hmY
  obtain ⟨c2, r2, m2, q1, q2, q3, q4, kP, hkP, hkPi⟩ := Cond.selects_spec hse
  cases hclB.symm.trans q1
  cases (State.methodFound?_of_named hnamed a8).symm.trans q2
  cases hnamed.symm.trans q3
  have hselP : selectMethod e.platform s.vm cellB.cls mk = .method mk := by rw [Launch.admits_selectMethod X.admits]; exact q4
  have key : ∃ vm₁, Stand p l e R s m args below meth c (T.setVm vm₁) locs cells slots ∧ ∀ target, (∀ acts, Steps p.tables e below (doInvoke e ((T.setVm vm₁).setTop { g with stack := rest }) acts mk (Value.ref b :: As).toArray).1 target) → Steps p.tables e below (T.setTop g) target := by
    rcases hl with hl | hl
    · exact X.invokevirtual hx ho hl hnamed hmethM hstM hkP hkPi a8 (a := b) (cell := cellB) (by rw [hT]; exact hcB) (fun z h => by rw [h] at hoB; cases hoB) hselP hmethM habM hkP hkPi (g := g) hg (argsL := As) (rest := rest) (hn.trans (a9 _ hsig)) hstack (by rw [hb]; exact hdg)
    · exact X.invokevirtualNest hx ho hl hnamed hmethM hstM hkP hkPi a8 (a := b) (cell := cellB) (by rw [hT]; exact hcB) (fun z h => by rw [h] at hoB; cases hoB) hselP hmethM habM hkP hkPi (g := g) hg (argsL := As) (rest := rest) (hn.trans (a9 _ hsig)) hstack (by rw [hb]; exact hdg)
  obtain ⟨vm₁, X₁, hstep₁⟩ := key
  obtain ⟨t, st, hq⟩ := k_call X₁ (y := y) (ws := ws) (rm := rm) (Pc := Pc) (maxL := maxL) (ig := .invokevirtual index) (len := 3) (mk := mk) (a := (Value.ref b :: As).toArray) (g := { g with stack := rest }) hg (hsize.trans hml.symm) (by rw [hb]; exact hdg) hW (X₁.named hnamed) hM hbl a1 a2 a3 a4 a5
    ⟨methM, cY, (X₁.warmed.alike.method? mk).trans hmethM, hcY, hlY⟩ (word_at X₁.warmed (Or.inl (by first | rfl | simp [Cond.onTables, Cond.keeps, Cond.steady])) a7) (hPc _ hT X₁.warmed) hX
  exact ⟨t, hstep₁ _ fun acts => by rw [doInvoke_state]; exact st, hq⟩
theorem k_runS (S : CallFix p m c cc nL s args Ts own) (hM : k_Met l y ws rm Pc) (ha : k_Ask R s args cells slots y bytes maxL ret ws rm n) (hl : (Cond.methodLink own index y).before args s = true ∨ (Cond.methodLinkNest own index y host).before args s = true) (hst : (Cond.static y).before args s = true) (hp : PreS s H Pc As)
    (hg : g.method = m) (hn : As.length = n) (hsize : g.locals.size = nL) (hstack : g.stack = As.reverse ++ rest) (hW : 2 * g.monitorRoom + (rest.map fun v => v.category).sum ≤ 8) (hdg : decode cc g.pc = .ok (.invokestatic index, 3)) (hX : k_X e s R.frames) :
    W p l e R s m args below meth c H locs cells slots k_Q g := by
  obtain ⟨a1, a2, a3, a4, a5, a6, a7, a8, a9⟩ := ha
  obtain ⟨hx, hb, hml, ho, -⟩ := S
  obtain ⟨hbl, hPc⟩ := hp
  intro T hT X
  obtain ⟨mk, hnamed⟩ := k_Y_named a6
  obtain ⟨methY, cY, hmY, hcY, hlY, hsig⟩ := k_Y_of a6 mk hnamed
  have hstatic : methY.isStatic = true := Cond.static_spec hnamed hmY hst
  obtain ⟨kP, hkP, -⟩ := className_of_methodNamed hnamed
  have hinitP : kP.init = .initialized := Cond.initialized_spec (findClass_of_methodNamed hnamed) hkP a7
  have key : ∃ vm₁, Stand p l e R s m args below meth c (T.setVm vm₁) locs cells slots ∧ ∀ target, (∀ acts, Steps p.tables e below (doInvoke e ((T.setVm vm₁).setTop { g with stack := rest }) acts mk As.toArray).1 target) → Steps p.tables e below (T.setTop g) target := by
    rcases hl with hl | hl
    · exact X.invokestatic hx ho hl hnamed hmY hstatic hkP hinitP a8 (g := g) hg (argsL := As) (rest := rest) (hn.trans (a9 _ hsig)) hstack (by rw [hb]; exact hdg)
    · exact X.invokestaticNest hx ho hl hnamed hmY hstatic hkP hinitP a8 (g := g) hg (argsL := As) (rest := rest) (hn.trans (a9 _ hsig)) hstack (by rw [hb]; exact hdg)
  obtain ⟨vm₁, X₁, hstep₁⟩ := key
  obtain ⟨t, st, hq⟩ := k_call X₁ (y := y) (ws := ws) (rm := rm) (Pc := Pc) (maxL := maxL) (ig := .invokestatic index) (len := 3) (mk := mk) (a := As.toArray) (g := { g with stack := rest }) hg (hsize.trans hml.symm) (by rw [hb]; exact hdg) hW (X₁.named hnamed) hM hbl a1 a2 a3 a4 a5
    ⟨methY, cY, (X₁.warmed.alike.method? mk).trans hmY, hcY, hlY⟩ (word_at X₁.warmed (Or.inl (by first | rfl | simp [Cond.onTables, Cond.keeps, Cond.steady])) a7) (hPc _ hT X₁.warmed) hX
  exact ⟨t, hstep₁ _ fun acts => by rw [doInvoke_state]; exact st, hq⟩
/-- a call of a static method with no frame left -/
theorem k_runS0 (S : CallFix p m c cc nL s args Ts own) (hc6 : (Cond.code y bytes maxL ret).before args s = true ∨ ∃ hh, (Cond.codeWith y bytes maxL ret hh).before args s = true) (hini : (Cond.initialized y.cls).before args s = true) (hy : y.cls ≠ "java/lang/invoke/MethodHandle" ∧ y.cls ≠ "java/lang/invoke/VarHandle") (hlen : ∀ sig, parseMethodDescriptor y.desc = some sig → n = sig.parameters.length) (hl : (Cond.methodLink own index y).before args s = true) (hst : (Cond.static y).before args s = true)
    (hg : g.method = m) (hn : As.length = n) (hstack : g.stack = As.reverse ++ rest) (hdg : decode cc g.pc = .ok (.invokestatic index, 3)) (hX : k_X e s 0) :
    W p l e R s m args below meth c H locs cells slots k_Q g := by
  obtain ⟨hx, hb, hml, ho, -⟩ := S
  intro T hT X
  obtain ⟨mk, hnamed⟩ := k_Y_named hc6
  obtain ⟨methY, cY, hmY, hcY, hlY, hsig⟩ := k_Y_of hc6 mk hnamed
  have hstatic : methY.isStatic = true := Cond.static_spec hnamed hmY hst
  obtain ⟨kP, hkP, -⟩ := className_of_methodNamed hnamed
  have hinitP : kP.init = .initialized := Cond.initialized_spec (findClass_of_methodNamed hnamed) hkP hini
  obtain ⟨vm₁, X₁, hstep₁⟩ := X.invokestatic hx ho hl hnamed hmY hstatic hkP hinitP hy (g := g) hg (argsL := As) (rest := rest) (hn.trans (hlen _ hsig)) hstack (by rw [hb]; exact hdg)
  have hfr0 : ((T.setVm vm₁).setTop { g with stack := rest }).frames = .java { g with stack := rest } :: below := by rw [State.frames_setTop' _ X₁.here.top, X₁.tail]
  obtain ⟨x1, x2, g0, x3, x4⟩ := hX
  rw [X.frames] at x1 x2 x3
  have hq := k_full (e := e) (S := (T.setVm vm₁).setTop { g with stack := rest }) (mk := mk) (a := As.toArray) ((X₁.warmed.alike.method? mk).trans hmY) hcY
    (by
      have e1 : e.platform.stackLimits ((T.setVm vm₁).setTop { g with stack := rest }).me = e.platform.stackLimits s.me := by rw [State.stackLimits_setTop _ X₁.here.top, X₁.limits]
      have e2 : (e.platform.stackLimits ((((T.setVm vm₁).setTop { g with stack := rest }).threads[((T.setVm vm₁).setTop { g with stack := rest }).cur]?).getD { frames := [] })).1 = (e.platform.stackLimits s.me).1 := congrArg Prod.fst e1
      rw [e2, hfr0, ← x1]
      simp only [List.length_cons]
      omega)
    (fun f hfm => by
      rw [hfr0] at hfm
      rcases List.mem_cons.mp hfm with h1 | h1
      · rw [h1]; rfl
      · exact x2 f (List.mem_cons_of_mem _ h1))
    ⟨g0, by
      rw [hfr0]
      rcases List.mem_cons.mp x3 with h1 | h1
      · cases h1
      · exact List.mem_cons_of_mem _ h1, X₁.warmed.alike.none x4⟩
  exact ⟨_, hstep₁ _ fun acts => by rw [doInvoke_state]; exact Steps.refl _, hq⟩
end KRun
end KV50_k3
