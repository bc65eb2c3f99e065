noncomputable section KV00_k2
/-! THE FULL STACK: the machine looks at all that lies on it; at a frame of no class it halts. -/
theorem k_ann {β : Type} (mm : MethodId) (dd : String) (k : Bool → Sem β) (e : Env) (d : Bool) (acts : List Action) (s : State) :
    (∃ x s' acts', Sem.go (annotated mm dd >>= k) e d acts s = .ctl (.stop x) s' acts') ∨ (s.vm.classes[mm.cls]? ≠ none ∧ ∃ b, Sem.go (annotated mm dd >>= k) e d acts s = Sem.go (k b) e d acts s) := by
  cases hc : s.vm.classes[mm.cls]? with
  | none =>
    left
    refine ⟨.modelBug "no such class id", s, acts, ?_⟩
    simp only [annotated, theClass, look, bind, Sem.bind, Sem.go, hc, modelBug, stop, Sem.go.endStep, Control.restarts, Bool.and_false, Bool.false_eq_true, if_false]
  | some kk =>
    cases hcf : kk.cf with
    | none =>
      right
      refine ⟨by simp, false, ?_⟩
      simp only [annotated, theClass, look, bind, Sem.bind, Sem.go, hc, hcf, Pure.pure]
    | some cf =>
      cases hl : kk.loader with
      | none =>
        cases hi : cf.methods[mm.idx]? with
        | none =>
          left
          refine ⟨.modelBug "no such method index", s, acts, ?_⟩
          simp only [annotated, theClass, look, bind, Sem.bind, Sem.go, hc, hcf, hl, hi, Pure.pure, modelBug, stop, Sem.go.endStep, Control.restarts, Bool.and_false, Bool.false_eq_true, if_false]
        | some info =>
          right
          refine ⟨by simp, ?_⟩
          simp only [annotated, theClass, look, bind, Sem.bind, Sem.go, hc, hcf, hl, hi, Pure.pure]
          repeat' split
          all_goals exact ⟨_, rfl⟩
      | some lo =>
        simp only [annotated, theClass, look, bind, Sem.bind, Sem.go, hc, hcf, hl, Pure.pure]
        split
        · exact Or.inr ⟨by simp, _, rfl⟩
        · cases hi : cf.methods[mm.idx]? with
          | none =>
            left
            refine ⟨.modelBug "no such method index", s, acts, ?_⟩
            simp only [hi, modelBug, stop, Sem.bind, Sem.go, Sem.go.endStep, Control.restarts, Bool.and_false, Bool.false_eq_true, if_false]
          | some info =>
            right
            refine ⟨by simp, ?_⟩
            simp only [hi, Sem.bind, Sem.go]
            repeat' split
            all_goals exact ⟨_, rfl⟩
theorem k_one {β : Type} {e : Env} {X : Sem (ForInStep PUnit)} {d : Bool} {acts : List Action} {s : State} {K : ForInStep PUnit → Sem β} {N : Prop} (h : (∃ x s' acts', Sem.go (X >>= K) e d acts s = .ctl (.stop x) s' acts') ∨ (N ∧ Sem.go (X >>= K) e d acts s = Sem.go (K (.yield PUnit.unit)) e d acts s)) (h2 : N → ∃ x s' acts', Sem.go (K (.yield PUnit.unit)) e d acts s = .ctl (.stop x) s' acts') : ∃ x s' acts', Sem.go (X >>= K) e d acts s = .ctl (.stop x) s' acts' := by
  rcases h with h | ⟨h1, h3⟩
  · exact h
  · rw [h3]
    exact h2 h1
theorem k_loop {β : Type} {e : Env} {B : Frame → PUnit → Sem (ForInStep PUnit)} (hB : ∀ (f : Frame) (k : ForInStep PUnit → Sem β) (d : Bool) (acts : List Action) (s : State), (∃ x s' acts', Sem.go (B f PUnit.unit >>= k) e d acts s = .ctl (.stop x) s' acts') ∨ ((∀ g : JFrame, f = .java g → s.vm.classes[g.method.cls]? ≠ none) ∧ Sem.go (B f PUnit.unit >>= k) e d acts s = Sem.go (k (.yield PUnit.unit)) e d acts s)) (k : PUnit → Sem β) :
    ∀ (fs : List Frame) (d : Bool) (acts : List Action) (s : State), (∃ g : JFrame, Frame.java g ∈ fs ∧ s.vm.classes[g.method.cls]? = none) → ∃ x s' acts', Sem.go (forIn fs PUnit.unit B >>= k) e d acts s = .ctl (.stop x) s' acts'
  | [], d, acts, s, ⟨g, hg, _⟩ => by cases hg
  | f :: fs, d, acts, s, ⟨g, hg, hn⟩ => by
    rw [List.forIn_cons, LawfulMonad.bind_assoc]
    refine k_one (hB f _ d acts s) (fun h1 => ?_)
    rcases List.mem_cons.mp hg with h3 | h3
    · exact absurd hn (h1 g h3.symm)
    · exact k_loop hB k fs d acts s ⟨g, h3, hn⟩
theorem k_stop {β : Type} {x : Stop} {e : Env} {d : Bool} {acts : List Action} {s : State} : Sem.go (.ctl (.stop x) : Sem β) e d acts s = .ctl (.stop x) s acts := by
  cases d <;> rfl
theorem k_full {e : Env} {S : State} {mk : MethodId} {a : Array Value} {meth : Method} {cY : Code} (hm : S.vm.method? mk = some meth) (hc : meth.code = some cY) (hfull : (e.platform.stackLimits ((S.threads[S.cur]?).getD { frames := [] })).1 ≤ S.frames.length)
    (hno : ∀ f ∈ S.frames, k_note f = false) (hbog : ∃ g : JFrame, Frame.java g ∈ S.frames ∧ S.vm.classes[g.method.cls]? = none) : k_Q (doInvoke e S [] mk a).1 := by
  have hf : ∀ n, e.platform.stackFull ((S.threads[S.cur]?).getD { frames := [] }) S.frames n = true := by
    intro n
    unfold Platform.stackFull
    rw [stackUse_count]
    simp [hfull]
  have key : ∃ x s' acts', (doInvoke e S [] mk a) = (note (.stop x) s', acts') := by
    obtain ⟨kk, hk, hme⟩ : ∃ kk, S.vm.classes[mk.cls]? = some kk ∧ kk.methods[mk.idx]? = some meth := by
      unfold Vm.method? at hm
      cases h9 : S.vm.classes[mk.cls]? with
      | none => simp [h9] at hm
      | some kk => exact ⟨kk, rfl, by simpa [h9] using hm⟩
    unfold doInvoke
    generalize hr : Sem.go _ e false [] S = res
    have h9 : ∃ x s' acts', res = .ctl (.stop x) s' acts' := by
      rw [← hr]
      cases hl : meth.locks <;> simp only [theMethod, theClass, look, ask, frames, bind, Sem.bind, Sem.go, hk, hme, hc, hf, hl, Bool.true_and, Pure.pure, Bool.false_eq_true, if_false, if_true] <;> split
      all_goals first
        | (rename_i hneg
           refine absurd ?_ hneg
           rw [Bool.or_eq_true]
           left
           rw [Bool.not_eq_true', List.any_eq_false]
           intro f hfm
           have h1 := hno f hfm
           cases f <;> simp_all [k_note]
           done)
        | (refine k_loop (fun f k d acts s => ?_) _ S.frames false [] S hbog
           cases f with
           | java g =>
             rcases k_ann g.method _ _ e d acts s with h | ⟨h1, b, h2⟩
             · left
               obtain ⟨x, s', acts', h⟩ := h
               refine ⟨x, s', acts', ?_⟩
               show Sem.go (Sem.bind (Sem.bind (annotated _ _) _) k) e d acts s = _
               rw [Sem.bind_assoc]
               exact h
             · cases b with
               | true =>
                 left
                 refine ⟨.unsupported (.feature (.other "a stack overflows while a method marked @ReservedStackAccess is under way: the reserved page is not modelled")), s, acts, ?_⟩
                 show Sem.go (Sem.bind (Sem.bind (annotated _ _) _) k) e d acts s = _
                 rw [Sem.bind_assoc]
                 exact h2.trans k_stop
               | false =>
                 refine Or.inr ⟨fun g' hg' => by cases hg'; exact h1, ?_⟩
                 show Sem.go (Sem.bind (Sem.bind (annotated _ _) _) k) e d acts s = _
                 rw [Sem.bind_assoc]
                 exact h2
           | _ => exact Or.inr ⟨(fun g hg => (nomatch hg)), rfl⟩)
    obtain ⟨x, s', acts', rfl⟩ := h9
    exact ⟨x, s', acts', rfl⟩
  obtain ⟨x, s', acts', h⟩ := key
  rw [h]
  show (s'.halt x).status ≠ _
  simp [State.halt]
end KV00_k2
