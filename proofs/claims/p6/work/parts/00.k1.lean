noncomputable section KV00_k1
/-! A RUN THAT DOESN'T COME BACK: where the stack is full the machine halts; what leads there never returns. -/
def k_Q : State → Prop := fun t => t.status ≠ .running
def k_note : Frame → Bool
  | .thenThrow _ => true
  | .throwNew .. => true
  | _ => false
/-- F frames are free, no more; one below is of no class; no throw is under way -/
def k_X (e : Env) (s : State) (F : Nat) : Prop := s.frames.length + F = (e.platform.stackLimits s.me).1 ∧ (∀ f ∈ s.frames, k_note f = false) ∧ ∃ g : JFrame, Frame.java g ∈ s.frames ∧ s.vm.classes[g.method.cls]? = none
theorem k_within {s : State} {f : Frame} {below : List Frame} (h : Within s (f :: below)) : Within s below := by
  obtain ⟨above, h1, h2, h3⟩ := h
  refine ⟨above ++ [f], by rw [h1]; simp, by simp, fun a ha => ?_⟩
  cases above with
  | nil => exact h2 rfl
  | cons x l =>
    have h4 := congrArg List.length ha
    simp at h4
/-- a contract of what never returns -/
def k_Met (l : Launch) (y : MethodName) (ws : List Cond) (rm : Room) (Pc : Array Value → State → Prop) : Prop :=
  ∀ (p : Program) (e : Env), l.admits e → FairCas e.choices → FairClock e.choices → ∀ (s : State) (m : MethodId) (args : Array Value) (below : List Frame),
    s.frames = .invoking m args :: below → (headSpec ws rm).appliesLoose y e.platform s = true → Pc args s → k_X e s rm.frames → ∃ t, Steps p.tables e below s t ∧ k_Q t
theorem k_ofB {l : Launch} {y : MethodName} {ws : List Cond} {rm : Room} {Pc : Array Value → State → Prop} {cc : ByteArray} {maxL : Nat} {ret : Option FieldType}
    (hy : plainName y.cls = true) (hw : (∃ ws', ws = Cond.code y cc maxL ret :: ws' ∨ ∃ hh, ws = Cond.codeWith y cc maxL ret hh :: ws'))
    (body : ∀ p e s m args below meth c s₁, BodyLoose p l y (headSpec ws rm) cc maxL ret e s m args below meth c s₁ → c.maxLocals = maxL → Pc args s → k_X e s rm.frames →
      W p l e (headSpec ws rm).room s m args below meth c s.heap [] 0 0 k_Q (entryFrame m args maxL)) : k_Met l y ws rm Pc := by
  intro p e ha hc hk s m args below hf happ hP hX
  obtain ⟨hrun, hable, halone, hname, hhears, hinit, hroom, hpre⟩ := (Spec.appliesLoose_iff hf).mp happ
  have his : ∃ meth c, s.vm.method? m = some meth ∧ meth.code = some c ∧ c.code = cc ∧ c.maxLocals = maxL ∧ meth.sig.returnType = ret ∧ meth.locks = false := by
    have hat := atoms_spec (ws := ws) hpre
    rcases hw with ⟨ws', hw | ⟨hh, hw⟩⟩
    · obtain ⟨meth, c, h1, h2, h3, h4, h5, h6, -, -⟩ := Cond.code_spec hname (hat _ (by rw [hw]; exact List.mem_cons_self))
      exact ⟨meth, c, h1, h2, h3, h4, h5, h6⟩
    · obtain ⟨m9, meth, c, hn9, h1, h2, h3, h4, -, h5, h6, -⟩ := Cond.codeWith_spec (hat _ (by rw [hw]; exact List.mem_cons_self))
      cases hname.symm.trans hn9
      exact ⟨meth, c, h1, h2, h3, h4, h5, h6⟩
  obtain ⟨meth, c, hmeth, hcode, hbytes, hlocals, hret, hlocks⟩ := his
  have hx : plainFor y = true := plainFor_of_name hy
  have hcur := State.cur_lt_of_frames hf
  have hf1 : (s.setFrames (.java (entryFrame m args maxL) :: below)).frames = .java (entryFrame m args maxL) :: below := State.frames_setFrames _ hcur
  have ht1 := State.topJava?_of_frames hf1
  have hplain : (s.setFrames (.java (entryFrame m args maxL) :: below)).plainMethod m := State.plainMethod.of_named (s := s) hx hname hmeth
  have hAt : At (s.setFrames (.java (entryFrame m args maxL) :: below)) m c below :=
    ⟨by rw [ht1]; rfl, ⟨[], by rw [hf1]; rfl⟩, hrun, by simpa using hable, by simpa using halone, by rw [State.code?_eq]; simp [State.setFrames, hmeth, hcode], hplain⟩
  have hstep : (stepThread p.tables e s).1 = (s.setFrames (.java (entryFrame m args maxL) :: below)).setTop (entryFrame m args maxL) := by
    have hfull : e.platform.stackFull (s.setFrames below).me (s.setFrames below).frames c.maxLocals = false := by
      obtain ⟨-, h1, -, h2⟩ := State.hasRoom_stack hroom
      rw [hf, List.length_cons] at h1
      rw [State.localsInUse_invoking hf hmeth hcode] at h2
      have hw := stackUse_le_stackWeight below
      rw [State.frames_setFrames _ hcur]
      exact Platform.stackFull_eq_false (by rw [State.stackLimits_setFrames]; omega) (by rw [State.stackLimits_setFrames]; omega)
    rw [stepThread_invoking hf, (doInvoke_java (s := s.setFrames below) (e := e) (meth := meth) (code := c) hmeth hcode hlocks hfull).1, State.setTop_self ht1]
    simp only [State.pushFrame, State.frames_setFrames _ hcur, State.setFrames_setFrames, hlocals, entryFrame]
  have B : BodyLoose p l y (headSpec ws rm) cc maxL ret e s m args below meth c (s.setFrames (.java (entryFrame m args maxL) :: below)) :=
    ⟨ha, hc, hk, by cases p <;> rfl, hf, hname, hhears, hinit, hroom, hpre, hmeth, hret, hlocks, hbytes, rfl, hAt⟩
  obtain ⟨t, hs, hq⟩ := body p e s m args below meth c _ B hlocals hP hX _ (by rfl) (Stand.of_body B)
  exact ⟨t, Steps.head (tb := p.tables) (e := e) ⟨hrun, hable, halone⟩ ⟨[.invoking m args], hf, by simp, by simp⟩ (hstep ▸ hs), hq⟩
/-- a call of what never returns -/
theorem k_call {p : Program} {l : Launch} {e : Env} {R : Room} {s : State} {m : MethodId} {args : Array Value} {below : List Frame} {meth : Method} {c : Code} {T : State} {locs : List Loc} {cells slots : Nat}
    (X : Stand p l e R s m args below meth c T locs cells slots) {y : MethodName} {ws : List Cond} {rm : Room} {Pc : Array Value → State → Prop} {maxL len : Nat} {ig : Instr} {mk : MethodId} {a : Array Value} {g : JFrame}
    (hg : g.method = m) (hsize : g.locals.size = c.maxLocals) (hdg : decode c.code g.pc = .ok (ig, len)) (hW : 2 * g.monitorRoom + (g.stack.map fun v => v.category).sum ≤ 8) (hn : T.methodNamed? y = some mk)
    (hM : k_Met l y ws rm Pc) (hblind : FrameBlind Pc) (hfr : rm.frames + 1 = R.frames) (hlo : 8 + (maxL + 11) + rm.locals ≤ R.locals) (hce : cells + rm.cells ≤ R.cells) (hsl : slots + rm.slots ≤ R.slots)
    (hws : ∀ w ∈ ws, ∀ (a' : Array Value) (U : State), s.WarmedH U.vm → w.before a' U = true) (hY : ∃ methY cY, T.vm.method? mk = some methY ∧ methY.code = some cY ∧ cY.maxLocals = maxL) (hini : (Cond.initialized y.cls).before a T = true) (hp : Pc a T) (hX : k_X e s R.frames) :
    ∃ t, Steps p.tables e below (doInvoke e (T.setTop g) [] mk a).1 t ∧ k_Q t := by
  obtain ⟨methY, cY, hmY, hcY, hlY⟩ := hY
  obtain ⟨kY, hkY, -⟩ := className_of_methodNamed hn
  have hinitY : kY.init = .initialized := Cond.initialized_spec (findClass_of_methodNamed hn) hkY hini
  have h : At T g.method c below := by rw [hg]; exact X.here
  have happ : (headSpec ws rm).appliesLoose y e.platform (T.calling g mk a) = true :=
    Spec.appliesLoose_calling (g := g) h hdg hn hkY hinitY (X.room_calling (g := g) (R' := rm) hsize hmY hcY (Nat.le_of_eq hfr) (by rw [hlY]; omega) hce hsl) (atoms_intro fun w hw => hws w hw _ _ X.warmed)
  have hfr0 : (T.setTop g).frames = .java g :: below := by rw [State.frames_setTop' g h.top, X.tail]
  have hlt : (T.setTop g).cur < (T.setTop g).threads.size := State.cur_lt_of_frames hfr0
  obtain ⟨t9, ht9, -⟩ := State.frames_cons hfr0
  have hf' : ((T.setTop g).pushFrame (.invoking mk a)).frames = .invoking mk a :: (T.setTop g).frames := State.frames_setFrames _ hlt
  have happ' : (headSpec ws rm).appliesLoose y e.platform ((T.setTop g).pushFrame (.invoking mk a)) = true := happ
  obtain ⟨hrun, hable, halone, -⟩ := (Spec.appliesLoose_iff hf').mp happ'
  have hgo : ((T.setTop g).pushFrame (.invoking mk a)).goesOn := ⟨hrun, hable, halone⟩
  have hstep : (stepThread p.tables e ((T.setTop g).pushFrame (.invoking mk a))).1 = (doInvoke e (T.setTop g) [] mk a).1 := by
    rw [stepThread_invoking hf', State.pushFrame, State.setFrames_setFrames, State.setFrames_self ht9]
  have hX' : k_X e ((T.setTop g).pushFrame (.invoking mk a)) rm.frames := by
    obtain ⟨x1, x2, g0, x3, x4⟩ := hX
    rw [X.frames] at x1 x2 x3
    refine ⟨?_, fun f hfm => ?_, g0, ?_, X.warmed.alike.none x4⟩
    · have e1 : e.platform.stackLimits ((T.setTop g).pushFrame (.invoking mk a)).me = e.platform.stackLimits s.me := by
        rw [State.pushFrame, State.stackLimits_setFrames, State.stackLimits_setTop _ X.here.top, X.limits]
      rw [e1, hf', hfr0, ← x1]
      simp only [List.length_cons]
      omega
    · rw [hf', hfr0] at hfm
      rcases List.mem_cons.mp hfm with h1 | h1
      · rw [h1]; rfl
      · rcases List.mem_cons.mp h1 with h2 | h2
        · rw [h2]; rfl
        · exact x2 f (List.mem_cons_of_mem _ h2)
    · rw [hf', hfr0]
      rcases List.mem_cons.mp x3 with h1 | h1
      · cases h1
      · exact List.mem_cons_of_mem _ (List.mem_cons_of_mem _ h1)
  obtain ⟨t, ⟨n, hn1, hw⟩, hq⟩ := hM p e X.admits X.cas X.clock _ mk a (T.setTop g).frames hf' happ' (hblind a T g mk hp) hX'
  cases n with
  | zero =>
    have h0 : (T.setTop g).pushFrame (.invoking mk a) = t := hn1
    rw [← h0] at hq
    exact absurd hrun hq
  | succ k =>
    rw [stepsAlone_succ _ hgo, hstep] at hn1
    refine ⟨t, ⟨k, hn1, fun j hj => ?_⟩, hq⟩
    have h9 := hw (j + 1) (by omega)
    rw [stepsAlone_succ _ hgo, hstep, hfr0] at h9
    exact k_within h9
end KV00_k1
