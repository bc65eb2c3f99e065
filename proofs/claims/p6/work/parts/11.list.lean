noncomputable section KV11_list
/-! FROM WHAT IS SAID OF EACH INSTRUCTION TO WHAT IS SAID OF A METHOD. -/
def ev_okR (P : Nat → ev_I → Prop) (K : Nat → Nat → Prop) : Nat → List (Option (ev_I ⊕ Nat)) → Prop
  | _, [] => True
  | pc, none :: l => ev_okR P K (pc + 1) l
  | pc, some (.inl f) :: l => P pc f ∧ ev_okR P K (pc + 1) l
  | pc, some (.inr k) :: l => K pc k ∧ ev_okR P K (pc + 1) l
def ev_okL (P : Nat → ev_I → Prop) (K : Nat → Nat → Prop) : Nat → List (List (Option (ev_I ⊕ Nat))) → Prop
  | _, [] => True
  | pc, r :: l => ev_okR P K pc r ∧ ev_okL P K (pc + 16) l
def ev_okX (P : Nat → ev_I → Prop) (K : Nat → Nat → Prop) (pc : Nat) : ev_I ⊕ Nat → Prop
  | .inl f => P pc f
  | .inr k => K pc k
theorem ev_okR_at {P : Nat → ev_I → Prop} {K : Nat → Nat → Prop} : ∀ (l : List (Option (ev_I ⊕ Nat))) (pc : Nat), ev_okR P K pc l → ∀ (i : Nat) (x : ev_I ⊕ Nat), l[i]? = some (some x) → ev_okX P K (pc + i) x
  | [], pc, h, i, x, hi => by simp at hi
  | none :: l, pc, h, i, x, hi => by
    match i, hi with
    | 0, hi => simp at hi
    | i + 1, hi =>
      rw [show pc + (i + 1) = pc + 1 + i by omega]
      exact ev_okR_at l (pc + 1) h i x (by simpa using hi)
  | some (.inl f) :: l, pc, h, i, x, hi => by
    match i, hi with
    | 0, hi =>
      cases hi
      exact h.1
    | i + 1, hi =>
      rw [show pc + (i + 1) = pc + 1 + i by omega]
      exact ev_okR_at l (pc + 1) h.2 i x (by simpa using hi)
  | some (.inr k) :: l, pc, h, i, x, hi => by
    match i, hi with
    | 0, hi =>
      cases hi
      exact h.1
    | i + 1, hi =>
      rw [show pc + (i + 1) = pc + 1 + i by omega]
      exact ev_okR_at l (pc + 1) h.2 i x (by simpa using hi)
theorem ev_okL_at {P : Nat → ev_I → Prop} {K : Nat → Nat → Prop} : ∀ (t : List (List (Option (ev_I ⊕ Nat)))) (pc : Nat), ev_okL P K pc t → ∀ (a : Nat) (r : List (Option (ev_I ⊕ Nat))), t[a]? = some r → ev_okR P K (pc + 16 * a) r
  | [], pc, h, a, r, ha => by simp at ha
  | q :: t, pc, h, a, r, ha => by
    match a, ha with
    | 0, ha =>
      cases ha
      exact h.1
    | a + 1, ha =>
      rw [show pc + 16 * (a + 1) = pc + 16 + 16 * a by omega]
      exact ev_okL_at t (pc + 16) h.2 a r (by simpa using ha)
theorem ev_code_at {P : Nat → ev_I → Prop} {K : Nat → Nat → Prop} {t : List (List (Option (ev_I ⊕ Nat)))} (h : ev_okL P K 0 t) {pc : Nat} {x : ev_I ⊕ Nat} (hx : ev_code t pc = some x) : ev_okX P K pc x := by
  unfold ev_code at hx
  rw [ev_lg_eq] at hx
  split at hx
  · next r hr =>
    rw [ev_lg_eq] at hx
    split at hx
    · next y hy =>
      subst hx
      have h1 := ev_okR_at r _ (ev_okL_at t 0 h (pc / 16) r hr) (pc % 16) x hy
      rw [show 0 + 16 * (pc / 16) + pc % 16 = pc by omega] at h1
      exact h1
    · cases hx
  · cases hx
theorem ev_mem {α : Type} {l : List α} {w : α} (i : Nat) (h : l[i]? = some w) : w ∈ l := List.mem_of_getElem? h
theorem ev_pz {P : Nat → ev_I → Prop} {K : Nat → Nat → Prop} {pc : Nat} : ev_okR P K pc [] := trivial
theorem ev_pn {P : Nat → ev_I → Prop} {K : Nat → Nat → Prop} {pc : Nat} {l : List (Option (ev_I ⊕ Nat))} (h : ev_okR P K (pc + 1) l) : ev_okR P K pc (ev_no :: l) := h
theorem ev_pc {P : Nat → ev_I → Prop} {K : Nat → Nat → Prop} {pc : Nat} {f : ev_I} {l : List (Option (ev_I ⊕ Nat))} (h1 : P pc f) (h : ev_okR P K (pc + 1) l) : ev_okR P K pc (ev_oi f :: l) := ⟨h1, h⟩
theorem ev_ps {P : Nat → ev_I → Prop} {K : Nat → Nat → Prop} {pc k : Nat} {l : List (Option (ev_I ⊕ Nat))} (h1 : K pc k) (h : ev_okR P K (pc + 1) l) : ev_okR P K pc (ev_os k :: l) := ⟨h1, h⟩
section EvL
variable {p : Program} {l : Launch} {e : Env} {R : Room} {s : State} {m : MethodId} {args : Array Value} {below : List Frame} {meth : Method} {c : Code} {Q : State → Prop} {nL : Nat} {D : va_G} {cl : List vw_C} {A : Nat → Prop} {H0 : Heap} {ex : Nat → Value} {ad0 : List Nat} {tyOf : Nat → FieldType}
variable {cc : ByteArray} {pc : Nat}
theorem ev_goodIn {W0 ws : List Cond} {y : MethodName} {bytes : ByteArray} {maxL : Nat} {ret : Option FieldType} (hg : W0.all goodWord = true) (h4 : Cond.code y bytes maxL ret ∈ W0) (hw : ws = Cond.code y bytes maxL ret :: W0) : GoodIn W0 ws := by
  intro w hw1
  rw [hw] at hw1
  have h1 : w ∈ W0 := (List.mem_cons.mp hw1).elim (fun h => by rw [h]; exact h4) (fun h => h)
  exact ⟨h1, good_of_word (List.all_eq_true.mp hg w h1)⟩
theorem ev_cwV {own C : String} {index maxL d cm sm : Nat} {y : MethodName} {bytes : ByteArray} {ret : Option FieldType} {W0 ws : List Cond} (n : Nat) (hg : W0.all goodWord = true) (ht : ∀ w ∈ W0, w.before args s = true) (hw : ws = Cond.code y bytes maxL ret :: W0) (h4 : Cond.code y bytes maxL ret ∈ W0) (h5 : Cond.initialized y.cls ∈ W0) (h1 : (Cond.methodLink own index y).before args s = true) (h2 : (Cond.instanceMethod y).before args s = true) (h3 : (Cond.selects C y y).before args s = true)
    (hd : y.cls ≠ "java/lang/invoke/MethodHandle" ∧ y.cls ≠ "java/lang/invoke/VarHandle" ∧ (parseMethodDescriptor y.desc).map (fun d => d.parameters.length) = some n) (hR : d + 1 ≤ R.frames ∧ 8 + (maxL + 11) + 64 * d ≤ R.locals) :
    CallW R s args own C index y bytes maxL ret ws ({ frames := d, cells := cm, slots := sm, locals := 64 * d } : Room) cm sm n :=
  ⟨callB_of n ht (ev_goodIn hg h4 hw) hw rfl rfl (ht _ h5) h1 hd hR, h2, h3⟩
theorem ev_cwS {own : String} {index maxL d cm sm : Nat} {y : MethodName} {bytes : ByteArray} {ret : Option FieldType} {W0 ws : List Cond} (n : Nat) (hg : W0.all goodWord = true) (ht : ∀ w ∈ W0, w.before args s = true) (hw : ws = Cond.code y bytes maxL ret :: W0) (h4 : Cond.code y bytes maxL ret ∈ W0) (h5 : Cond.initialized y.cls ∈ W0) (h1 : (Cond.methodLink own index y).before args s = true) (h2 : (Cond.static y).before args s = true)
    (hd : y.cls ≠ "java/lang/invoke/MethodHandle" ∧ y.cls ≠ "java/lang/invoke/VarHandle" ∧ (parseMethodDescriptor y.desc).map (fun d => d.parameters.length) = some n) (hR : d + 1 ≤ R.frames ∧ 8 + (maxL + 11) + 64 * d ≤ R.locals) :
    CallB R s args own index y bytes maxL ret ws ({ frames := d, cells := cm, slots := sm, locals := 64 * d } : Room) cm sm n ∧ (Cond.static y).before args s = true :=
  ⟨callB_of n ht (ev_goodIn hg h4 hw) hw rfl rfl (ht _ h5) h1 hd hR, h2⟩
theorem ev_cwI {own : String} {index maxL d cm sm : Nat} {y : MethodName} {bytes : ByteArray} {W0 ws : List Cond} (n : Nat) (hg : W0.all goodWord = true) (ht : ∀ w ∈ W0, w.before args s = true) (hw : ws = Cond.code y bytes maxL none :: W0) (h4 : Cond.code y bytes maxL none ∈ W0) (h5 : Cond.initialized y.cls ∈ W0) (h1 : (Cond.methodLink own index y).before args s = true) (h2 : (Cond.instanceMethod y).before args s = true) (hn : y.name = "<init>")
    (hd : y.cls ≠ "java/lang/invoke/MethodHandle" ∧ y.cls ≠ "java/lang/invoke/VarHandle" ∧ (parseMethodDescriptor y.desc).map (fun d => d.parameters.length) = some n) (hR : d + 1 ≤ R.frames ∧ 8 + (maxL + 11) + 64 * d ≤ R.locals) :
    CallB R s args own index y bytes maxL none ws ({ frames := d, cells := cm, slots := sm, locals := 64 * d } : Room) cm sm n ∧ y.name = "<init>" ∧ (Cond.instanceMethod y).before args s = true :=
  ⟨callB_of n ht (ev_goodIn hg h4 hw) hw rfl rfl (ht _ h5) h1 hd hR, hn, h2⟩
theorem ev_cwN {own host : String} {index maxL d cm sm : Nat} {y : MethodName} {bytes : ByteArray} {ret : Option FieldType} {W0 ws : List Cond} (n : Nat) (hg : W0.all goodWord = true) (ht : ∀ w ∈ W0, w.before args s = true) (hw : ws = Cond.code y bytes maxL ret :: W0) (h4 : Cond.code y bytes maxL ret ∈ W0) (h5 : Cond.initialized y.cls ∈ W0) (h1 : va_Nw (.methodLinkNest own index y host) s)
    (hd : y.cls ≠ "java/lang/invoke/MethodHandle" ∧ y.cls ≠ "java/lang/invoke/VarHandle" ∧ (parseMethodDescriptor y.desc).map (fun d => d.parameters.length) = some n) (hR : d + 1 ≤ R.frames ∧ 8 + (maxL + 11) + 64 * d ≤ R.locals) :
    va_CN R s args own index y host bytes maxL ret ws ({ frames := d, cells := cm, slots := sm, locals := 64 * d } : Room) cm sm n :=
  va_cnB n ht (ev_goodIn hg h4 hw) hw rfl rfl h1 (ht _ h5) hd hR
theorem ev_tsw2_ok (hx : p.tables.exec = Jvm.exec) (hb : c.code = cc) {dflt lo hi : Int} {offs : Array Int} {len dt : Nat} {ts : List Nat} (hd : decode cc pc = .ok (.tableswitch dflt lo hi offs, len)) (hdt : (pc : Int) + dflt = (dt : Int)) (hn9 : (ts.length : Int) = hi - lo + 1) (hts : offs.toList.map (fun o => (pc : Int) + o) = ts.map (fun t : Nat => (t : Int))) : ev_Sim p l e R s m args below meth c Q nL D cl A H0 ex ad0 tyOf pc (ev_tsw lo ts dt) := by
  refine ev_tsw_ok hx hb hd hdt hn9 fun i t ht => ?_
  have h1 : (ts.map (fun t : Nat => (t : Int)))[i]? = some (t : Int) := by simp [ht]
  rw [← hts, List.getElem?_map] at h1
  cases ho : offs.toList[i]? with
  | none => rw [ho] at h1; cases h1
  | some off =>
    rw [ho] at h1
    exact ⟨off, by simpa using ho, by simpa using h1⟩
theorem ev_lsw2_ok (hx : p.tables.exec = Jvm.exec) (hb : c.code = cc) {dflt : Int} {ps : Array (Int × Int)} {len dt : Nat} {qs : List (Int × Nat)} (hd : decode cc pc = .ok (.lookupswitch dflt ps, len)) (hp : (ps.toList.zip (ps.toList.drop 1)).all (fun (a, next) => a.1 < next.1) = true) (hdt : (pc : Int) + dflt = (dt : Int)) (hqs : ps.toList.map (fun o => (o.1, (pc : Int) + o.2)) = qs.map (fun t => (t.1, (t.2 : Int)))) : ev_Sim p l e R s m args below meth c Q nL D cl A H0 ex ad0 tyOf pc (ev_lsw qs dt) := by
  have hl : ps.toList.length = qs.length := by
    have h1 := congrArg List.length hqs
    simpa using h1
  refine ev_lsw_ok hx hb hd hp hdt hl fun i k t ht => ?_
  have h1 : (qs.map (fun t : Int × Nat => (t.1, (t.2 : Int))))[i]? = some (k, (t : Int)) := by simp [ht]
  rw [← hqs, List.getElem?_map] at h1
  cases ho : ps.toList[i]? with
  | none => rw [ho] at h1; cases h1
  | some o =>
    rw [ho] at h1
    obtain ⟨o1, o2⟩ := o
    have h2 : o1 = k ∧ (pc : Int) + o2 = (t : Int) := by simpa using h1
    exact ⟨o2, by rw [h2.1], h2.2⟩
theorem ev_ldcs2_ok (hx : p.tables.exec = Jvm.exec) (hb : c.code = cc) {own tx : String} {index j : Nat} (ho : s.vm.findClass own = some m.cls) (hZ : ∃ q, ex j = .ref q ∧ vk_R own index tx q s) (hd : decode cc pc = .ok (.ldc index, 2)) : ev_Sim p l e R s m args below meth c Q nL D cl A H0 ex ad0 tyOf pc (ev_push (pc + 2) (ev_ext j)) := by
  obtain ⟨q, h1, h2⟩ := hZ
  exact ev_ldcs_ok hx hb ho h2 h1 hd
end EvL
end KV11_list
