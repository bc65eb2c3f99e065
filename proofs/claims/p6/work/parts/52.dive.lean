noncomputable section KV52_dive
/-! A RUN THAT GOES DOWN, call by call, and never comes back. -/
/-- from there the machine comes to a halt -/
def k_G (l : Launch) (D : va_G) (cl : List vw_C) (A : Nat → Prop) (ex : Nat → Value) (tyOf : Nat → FieldType) (XT : State → Prop) (yOf : Nat → MethodName) (bOf : Nat → ByteArray) (nLOf : Nat → Nat) (wsOf : Nat → List Cond) (mid pc : Nat) (st : ev_S) (F Lo Ce Sl : Nat) : Prop :=
  ∀ (p : Program) (e : Env) (s : State) (m : MethodId) (args : Array Value) (below : List Frame) (meth : Method) (c : Code),
    p.tables.exec = Jvm.exec → c.code = bOf mid → c.maxLocals = nLOf mid → meth.name = (yOf mid).name → s.vm.findClass (yOf mid).cls = some m.cls → (∀ w ∈ wsOf mid, w.before args s = true) → XT s → (∀ q, s.heap.size ≤ q → A q) → k_X e s F →
    ev_G p l e ({ frames := F, cells := Ce, slots := Sl, locals := Lo } : Room) s m args below meth c k_Q (nLOf mid) D cl A s.heap ex [] tyOf pc st
/-- a place where the run goes down -/
def k_Hop (l : Launch) (D : va_G) (cl : List vw_C) (A : Nat → Prop) (ex : Nat → Value) (tyOf : Nat → FieldType) (XT : State → Prop) (yOf : Nat → MethodName) (bOf : Nat → ByteArray) (nLOf : Nat → Nat) (wsOf : Nat → List Cond) (mid pc mid' na : Nat) (rc : ev_Hp → List ev_V → Bool) : Prop :=
  ∀ (p : Program) (e : Env) (R : Room) (s : State) (m : MethodId) (args : Array Value) (below : List Frame) (meth : Method) (c : Code),
    p.tables.exec = Jvm.exec → c.code = bOf mid → c.maxLocals = nLOf mid → s.vm.findClass (yOf mid).cls = some m.cls → (∀ w ∈ wsOf mid, w.before args s = true) → XT s → (∀ q, s.heap.size ≤ q → A q) → k_X e s R.frames →
    ∀ (rm : Room), rm.frames + 1 = R.frames → 8 + (nLOf mid' + 11) + rm.locals ≤ R.locals → ∀ (H : Heap) (locs : List Loc) (cells slots : Nat) (ls : Array Slot) (w : va_W) (tys : List (ClassId × FieldType)) (h : ev_Hp) (as : List ev_V) (vals rest : List Value),
      va_K D cl tys s → va_P D cl w H → va_D A w → va_S A s.heap H locs → ev_hR [] tyOf tys ex h w → ls.size = nLOf mid → ev_kR (w.map Prod.fst) ex as vals → vals.length = na → rc h as = true → (rest.map fun v => v.category).sum ≤ 8 → cells + rm.cells ≤ R.cells → slots + rm.slots ≤ R.slots →
      k_Met l (yOf mid') (wsOf mid') rm (va_Pc vals (ev_Pr D cl A ex tyOf XT h w tys)) → W p l e R s m args below meth c H locs cells slots k_Q (F0 m pc ls (vals.reverse ++ rest))
/-- a call with no frame left -/
def k_Hop0 (l : Launch) (D : va_G) (cl : List vw_C) (A : Nat → Prop) (XT : State → Prop) (yOf : Nat → MethodName) (bOf : Nat → ByteArray) (nLOf : Nat → Nat) (wsOf : Nat → List Cond) (mid pc na : Nat) : Prop :=
  ∀ (p : Program) (e : Env) (R : Room) (s : State) (m : MethodId) (args : Array Value) (below : List Frame) (meth : Method) (c : Code),
    p.tables.exec = Jvm.exec → c.code = bOf mid → c.maxLocals = nLOf mid → s.vm.findClass (yOf mid).cls = some m.cls → (∀ w ∈ wsOf mid, w.before args s = true) → XT s → k_X e s 0 →
    ∀ (H : Heap) (locs : List Loc) (cells slots : Nat) (ls : Array Slot) (vals rest : List Value), vals.length = na → W p l e R s m args below meth c H locs cells slots k_Q (F0 m pc ls (vals.reverse ++ rest))
section KDive
variable {l : Launch} {D : va_G} {cl : List vw_C} {A : Nat → Prop} {ex : Nat → Value} {tyOf : Nat → FieldType} {XT : State → Prop} {yOf : Nat → MethodName} {bOf : Nat → ByteArray} {nLOf : Nat → Nat} {retOf : Nat → Option FieldType} {wsOf : Nat → List Cond} {cmOf smOf : Nat → Nat} {k0 mz : Nat}
theorem k_G_le {mid pc F Lo Ce Sl : Nat} {a b : ev_S} (h : k_sle a b = true) (g : k_G l D cl A ex tyOf XT yOf bOf nLOf wsOf mid pc a F Lo Ce Sl) : k_G l D cl A ex tyOf XT yOf bOf nLOf wsOf mid pc b F Lo Ce Sl :=
  fun p e s m args below meth c h1 h2 h3 h4 h5 h6 h7 h8 h9 => k_sle_ok h (g p e s m args below meth c h1 h2 h3 h4 h5 h6 h7 h8 h9)
theorem k_G_R {mc : Nat → ev_E → Nat → Option (ev_I ⊕ Nat)} (hT : k_Tb l D cl A ex tyOf XT yOf bOf nLOf retOf wsOf cmOf smOf k0 mz mc) {d : Nat} {E : ev_E} (hd : k0 ≤ d) (hE : ev_Snd l D cl A ex tyOf XT yOf wsOf cmOf smOf d E) {mid F Lo Ce Sl : Nat} (hf : d + 1 ≤ F ∨ (k0 = 0 ∧ ∀ (mid : Nat) (as : List ev_V) (h : ev_Hp), E mid as h = none)) (hm : mid = mz ∨ 1 ≤ F) (hlo : 64 * (d + 1) ≤ Lo) (hce : cmOf mid ≤ Ce) (hsl : smOf mid ≤ Sl) (hex : ∃ E pc x, mc mid E pc = some x)
    {x y : Nat × ev_S} (hr : k_R (mc mid E) x y) (g : k_G l D cl A ex tyOf XT yOf bOf nLOf wsOf mid y.1 y.2 F Lo Ce Sl) : k_G l D cl A ex tyOf XT yOf bOf nLOf wsOf mid x.1 x.2 F Lo Ce Sl := by
  intro p e s m args below meth c h1 h2 h3 h4 h5 h6 h7 h8 h9
  obtain ⟨-, -, htab⟩ := hT mid hex
  obtain ⟨hsim, -⟩ := htab d E hd hE p e ({ frames := F, cells := Ce, slots := Sl, locals := Lo } : Room) s m args below meth c k_Q [] h1 h2 h3 h4 h5 h6 h7 h8 hf hm hlo hce hsl
  exact k_R_G hsim hr (g p e s m args below meth c h1 h2 h3 h4 h5 h6 h7 h8 h9)
theorem k_N_of {mc : Nat → ev_E → Nat → Option (ev_I ⊕ Nat)} (hT : k_Tb l D cl A ex tyOf XT yOf bOf nLOf retOf wsOf cmOf smOf k0 mz mc) {mid F Lo Ce Sl : Nat} {as : List ev_V} {h : ev_Hp} (hex : ∃ E pc x, mc mid E pc = some x) (hlay : (ev_lay as).length ≤ nLOf mid) (g : k_G l D cl A ex tyOf XT yOf bOf nLOf wsOf mid 0 ([], ev_ent (nLOf mid) as, h, (0, 0)) F Lo Ce Sl)
    (w : va_W) (tys : List (ClassId × FieldType)) (vals : List Value) (hv : ev_kR (w.map Prod.fst) ex as vals) : k_Met l (yOf mid) (wsOf mid) ({ frames := F, cells := Ce, slots := Sl, locals := Lo } : Room) (va_Pc vals (ev_Pr D cl A ex tyOf XT h w tys)) := by
  obtain ⟨hpl, hws, -⟩ := hT mid hex
  refine k_ofB (cc := bOf mid) (maxL := nLOf mid) (ret := retOf mid) hpl hws ?_
  intro p e s m args below meth c s₁ B hml hv0 hX
  obtain ⟨rfl, hP, hK, hD, hA, hh, hXs⟩ := hv0
  have hts := atoms_spec (ws := wsOf mid) B.pre
  have hown : s.vm.findClass (yOf mid).cls = some m.cls := findClass_of_methodNamed B.named
  have hname : meth.name = (yOf mid).name := (name_of_methodNamed B.named B.method).1
  have g0 := g p e s m vals.toArray below meth c B.exec B.bytes hml hname hown hts hXs hA hX
  have hl := lv_entry vals (n := nLOf mid) (by rw [ev_lay_len hv]; exact hlay)
  rw [lg_entry_eq]
  exact g0 s.heap [] _ _ [] w tys hK hP hD va_S.rf hh hl (by unfold ev_ent; rw [List.length_append, List.length_replicate]; omega) (ev_ent_ok hv) rfl
theorem k_leg {mc : Nat → ev_E → Nat → Option (ev_I ⊕ Nat)} (hT : k_Tb l D cl A ex tyOf XT yOf bOf nLOf retOf wsOf cmOf smOf k0 mz mc) {mid pc mid' na : Nat} {rc : ev_Hp → List ev_V → Bool} (hop : k_Hop l D cl A ex tyOf XT yOf bOf nLOf wsOf mid pc mid' na rc) (hex : ∃ E pc x, mc mid' E pc = some x) {stk as rest : List ev_V} {L : List (Option ev_V)} {h : ev_Hp} {c1 n1 F Lo Ce Sl Lo' Ce' Sl' : Nat}
    (hp : ev_pops na stk [] = some (as, rest)) (hrc : rc h as = true) (hcat : ev_cats rest ≤ 8) (hlay : (ev_lay as).length ≤ nLOf mid') (hlo : 8 + (nLOf mid' + 11) + Lo' ≤ Lo) (hce : c1 + Ce' ≤ Ce) (hsl : n1 + Sl' ≤ Sl) (g : k_G l D cl A ex tyOf XT yOf bOf nLOf wsOf mid' 0 ([], ev_ent (nLOf mid') as, h, (0, 0)) F Lo' Ce' Sl') : k_G l D cl A ex tyOf XT yOf bOf nLOf wsOf mid pc (stk, L, h, (c1, n1)) (F + 1) Lo Ce Sl := by
  obtain ⟨bs, e1, e2, e3⟩ := ev_pops_i _ _ _ _ _ hp
  rw [List.append_nil] at e3
  subst e2 e3
  intro p e s m args below meth c h1 h2 h3 h4 h5 h6 h7 h8 hX
  intro H locs ls lv sv ws tys hK hP hD hS hh hl hn hL hs
  obtain ⟨s1, s2, rfl, hlen, hs1, hs2⟩ := ev_kR_app hs
  have hv := ev_kR_rev hs1
  have hM := k_N_of hT hex hlay g ws tys s1.reverse hv
  have hr := hop p e ({ frames := F + 1, cells := Ce, slots := Sl, locals := Lo } : Room) s m args below meth c h1 h2 h3 h5 h6 h7 h8 hX ({ frames := F, cells := Ce', slots := Sl', locals := Lo' } : Room) rfl hlo H locs c1 n1 ls ws tys h bs.reverse s1.reverse s2 hK hP hD hS hh hl.1 hv (by rw [List.length_reverse, hlen, e1]) hrc (by rw [ev_cats_ok hs2]; exact hcat) hce hsl hM
  rw [List.reverse_reverse] at hr
  exact hr
theorem k_bot {mid pc na : Nat} (hop : k_Hop0 l D cl A XT yOf bOf nLOf wsOf mid pc na) {stk as rest : List ev_V} {L : List (Option ev_V)} {h : ev_Hp} {c1 n1 Lo Ce Sl : Nat} (hp : ev_pops na stk [] = some (as, rest)) : k_G l D cl A ex tyOf XT yOf bOf nLOf wsOf mid pc (stk, L, h, (c1, n1)) 0 Lo Ce Sl := by
  obtain ⟨bs, e1, e2, e3⟩ := ev_pops_i _ _ _ _ _ hp
  subst e2
  intro p e s m args below meth c h1 h2 h3 h4 h5 h6 h7 h8 hX
  intro H locs ls lv sv ws tys hK hP hD hS hh hl hn hL hs
  obtain ⟨s1, s2, rfl, hlen, hs1, hs2⟩ := ev_kR_app hs
  have hr := hop p e ({ frames := 0, cells := Ce, slots := Sl, locals := Lo } : Room) s m args below meth c h1 h2 h3 h5 h6 h7 hX H locs c1 n1 ls s1.reverse s2 (by rw [List.length_reverse, hlen, e1])
  rw [List.reverse_reverse] at hr
  exact hr
end KDive
/-- method, place, picture; frames, words, cells, slots that are left -/
abbrev k_Pos : Type := Nat × (Nat × (ev_S × (Nat × (Nat × (Nat × Nat)))))
def k_d (F : Nat) : Nat := cond (Nat.ble 15 F) 14 (F - 1)
theorem k_d_ok {F : Nat} (h : 1 ≤ F) : k_d F + 1 ≤ F := by
  unfold k_d
  cases hb : Nat.ble 15 F with
  | true =>
    have h1 := Nat.le_of_ble_eq_true hb
    show 14 + 1 ≤ F
    omega
  | false =>
    show F - 1 + 1 ≤ F
    omega
/-- n steps and down, again and again -/
def k_dv (mc : Nat → ev_E → Nat → Option (ev_I ⊕ Nat)) (Ef : Nat → ev_E) (nL cm sm : Nat → Nat) (sites : Nat → Nat → Option (Nat × (Nat × (ev_Hp → List ev_V → Bool)))) : List Nat → k_Pos → Option k_Pos
  | [], x => some x
  | n :: ns, (mid, pc, st, F, Lo, Ce, Sl) => match ev_stp (mc mid (Ef (k_d F))) n pc st with
    | some (pc1, (stk, L, h, (c1, n1))) => (match sites mid pc1 with
      | some (mid', na, rc) => (match ev_pops na stk [] with
        | some (as, rest) => cond (Nat.ble 1 F && (rc h as && (Nat.ble (ev_cats rest) 8 && (Nat.ble (ev_lay as).length (nL mid') && (Nat.ble (64 * (k_d F + 1)) Lo && (Nat.ble (cm mid) Ce && (Nat.ble (sm mid) Sl && (Nat.ble (nL mid' + 19) Lo && (Nat.ble c1 Ce && Nat.ble n1 Sl)))))))))
          (ev_fN (F - 1) (fun F' => ev_fN (Lo - (nL mid' + 19)) (fun Lo' => ev_fN (Ce - c1) (fun Ce' => ev_fN (Sl - n1) (fun Sl' => k_dv mc Ef nL cm sm sites ns (mid', 0, ([], ev_ent (nL mid') as, h, (0, 0)), F', Lo', Ce', Sl')))))) none
        | none => none)
      | none => none)
    | none => none
def k_ple (a b : k_Pos) : Bool := match a, b with
  | (mid, pc, st, F, Lo, Ce, Sl), (mid', pc', st', F', Lo', Ce', Sl') => Nat.beq mid mid' && (Nat.beq pc pc' && (k_sle st st' && (Nat.beq F F' && (Nat.beq Lo Lo' && (Nat.beq Ce Ce' && Nat.beq Sl Sl')))))
def k_dck (mc : Nat → ev_E → Nat → Option (ev_I ⊕ Nat)) (Ef : Nat → ev_E) (nL cm sm : Nat → Nat) (sites : Nat → Nat → Option (Nat × (Nat × (ev_Hp → List ev_V → Bool)))) (ns : List Nat) (x y : k_Pos) : Bool := match k_dv mc Ef nL cm sm sites ns x with
  | some z => k_ple y z
  | none => false
section KDive2
variable {l : Launch} {D : va_G} {cl : List vw_C} {A : Nat → Prop} {ex : Nat → Value} {tyOf : Nat → FieldType} {XT : State → Prop} {yOf : Nat → MethodName} {bOf : Nat → ByteArray} {nLOf : Nat → Nat} {retOf : Nat → Option FieldType} {wsOf : Nat → List Cond} {cmOf smOf : Nat → Nat} {mz : Nat}
def k_Gp (l : Launch) (D : va_G) (cl : List vw_C) (A : Nat → Prop) (ex : Nat → Value) (tyOf : Nat → FieldType) (XT : State → Prop) (yOf : Nat → MethodName) (bOf : Nat → ByteArray) (nLOf : Nat → Nat) (wsOf : Nat → List Cond) (x : k_Pos) : Prop := k_G l D cl A ex tyOf XT yOf bOf nLOf wsOf x.1 x.2.1 x.2.2.1 x.2.2.2.1 x.2.2.2.2.1 x.2.2.2.2.2.1 x.2.2.2.2.2.2
theorem k_dv_ok {mc : Nat → ev_E → Nat → Option (ev_I ⊕ Nat)} (hT : k_Tb l D cl A ex tyOf XT yOf bOf nLOf retOf wsOf cmOf smOf 0 mz mc) {Ef : Nat → ev_E} (hE : ∀ d, ev_Snd l D cl A ex tyOf XT yOf wsOf cmOf smOf d (Ef d)) {sites : Nat → Nat → Option (Nat × (Nat × (ev_Hp → List ev_V → Bool)))}
    (hs : ∀ mid pc mid' na rc, sites mid pc = some (mid', na, rc) → (∃ E pc x, mc mid E pc = some x) ∧ (∃ E pc x, mc mid' E pc = some x) ∧ k_Hop l D cl A ex tyOf XT yOf bOf nLOf wsOf mid pc mid' na rc) : ∀ (ns : List Nat) (x y : k_Pos), k_dv mc Ef nLOf cmOf smOf sites ns x = some y → k_Gp l D cl A ex tyOf XT yOf bOf nLOf wsOf y → k_Gp l D cl A ex tyOf XT yOf bOf nLOf wsOf x
  | [], x, y, h, g => by cases h; exact g
  | n :: ns, (mid, pc, st, F, Lo, Ce, Sl), y, h, g => by
    simp only [k_dv, ev_fN_eq] at h
    split at h
    · next pc1 stk L hp c1 n1 hrun =>
      split at h
      · next mid' na rc hsite =>
        obtain ⟨x1, x2, hop⟩ := hs _ _ _ _ _ hsite
        split at h
        · next as rest hpop =>
          obtain ⟨a1, h9⟩ := ev_bt1 h
          clear h
          rw [Bool.and_eq_true, Bool.and_eq_true, Bool.and_eq_true, Bool.and_eq_true, Bool.and_eq_true, Bool.and_eq_true, Bool.and_eq_true, Bool.and_eq_true, Bool.and_eq_true] at a1
          obtain ⟨b1, b2, b3, b4, b5, b6, b7, b8, b9, b10⟩ := a1
          have b1 := Nat.le_of_ble_eq_true b1
          have b3 := Nat.le_of_ble_eq_true b3
          have b4 := Nat.le_of_ble_eq_true b4
          have b5 := Nat.le_of_ble_eq_true b5
          have b6 := Nat.le_of_ble_eq_true b6
          have b7 := Nat.le_of_ble_eq_true b7
          have b8 := Nat.le_of_ble_eq_true b8
          have b9 := Nat.le_of_ble_eq_true b9
          have b10 := Nat.le_of_ble_eq_true b10
          have ih := k_dv_ok hT hE hs ns _ y h9 g
          have ih : k_G l D cl A ex tyOf XT yOf bOf nLOf wsOf mid' 0 ([], ev_ent (nLOf mid') as, hp, (0, 0)) (F - 1) (Lo - (nLOf mid' + 19)) (Ce - c1) (Sl - n1) := ih
          have g1 := k_leg hT hop x2 (L := L) hpop b2 b3 b4 (Lo := Lo) (Ce := Ce) (Sl := Sl) (c1 := c1) (n1 := n1) (by omega) (by omega) (by omega) ih
          rw [show F - 1 + 1 = F by omega] at g1
          exact k_G_R hT (Nat.zero_le _) (hE (k_d F)) (Or.inl (k_d_ok b1)) (Or.inr b1) b5 b6 b7 x1 (x := (pc, st)) (y := (pc1, (stk, L, hp, (c1, n1)))) (fun P pa pb pcc => k_stp_P pa n pc st pc1 _ hrun pcc) g1
        · cases h
      · cases h
    · cases h
theorem k_dck_ok {mc : Nat → ev_E → Nat → Option (ev_I ⊕ Nat)} (hT : k_Tb l D cl A ex tyOf XT yOf bOf nLOf retOf wsOf cmOf smOf 0 mz mc) {Ef : Nat → ev_E} (hE : ∀ d, ev_Snd l D cl A ex tyOf XT yOf wsOf cmOf smOf d (Ef d)) {sites : Nat → Nat → Option (Nat × (Nat × (ev_Hp → List ev_V → Bool)))}
    (hs : ∀ mid pc mid' na rc, sites mid pc = some (mid', na, rc) → (∃ E pc x, mc mid E pc = some x) ∧ (∃ E pc x, mc mid' E pc = some x) ∧ k_Hop l D cl A ex tyOf XT yOf bOf nLOf wsOf mid pc mid' na rc) {ns : List Nat} {x y : k_Pos} (h : k_dck mc Ef nLOf cmOf smOf sites ns x y = true) (g : k_Gp l D cl A ex tyOf XT yOf bOf nLOf wsOf y) : k_Gp l D cl A ex tyOf XT yOf bOf nLOf wsOf x := by
  unfold k_dck at h
  split at h
  · next z hz =>
    refine k_dv_ok hT hE hs ns x z hz ?_
    obtain ⟨mid, pc, st, F, Lo, Ce, Sl⟩ := y
    obtain ⟨mid', pc', st', F', Lo', Ce', Sl'⟩ := z
    have h : (Nat.beq mid mid' && (Nat.beq pc pc' && (k_sle st st' && (Nat.beq F F' && (Nat.beq Lo Lo' && (Nat.beq Ce Ce' && Nat.beq Sl Sl')))))) = true := h
    rw [Bool.and_eq_true, Bool.and_eq_true, Bool.and_eq_true, Bool.and_eq_true, Bool.and_eq_true, Bool.and_eq_true] at h
    obtain ⟨h1, h2, h3, h4, h5, h6, h7⟩ := h
    have e1 := Nat.eq_of_beq_eq_true h1
    have e2 := Nat.eq_of_beq_eq_true h2
    have e4 := Nat.eq_of_beq_eq_true h4
    have e5 := Nat.eq_of_beq_eq_true h5
    have e6 := Nat.eq_of_beq_eq_true h6
    have e7 := Nat.eq_of_beq_eq_true h7
    subst e1 e2 e4 e5 e6 e7
    exact k_G_le h3 g
  · cases h
end KDive2
theorem k_ask {s : State} {args : Array Value} {R : Room} {cells slots : Nat} {y : MethodName} {bytes : ByteArray} {maxL : Nat} {ret : Option FieldType} {W0 ws : List Cond} {rm : Room} (n : Nat) (hg : W0.all goodWord = true) (ht : ∀ w ∈ W0, w.before args s = true) (hw : (ws = Cond.code y bytes maxL ret :: W0 ∧ Cond.code y bytes maxL ret ∈ W0) ∨ ∃ hh, ws = Cond.codeWith y bytes maxL ret hh :: W0 ∧ Cond.codeWith y bytes maxL ret hh ∈ W0) (h5 : Cond.initialized y.cls ∈ W0)
    (hd : y.cls ≠ "java/lang/invoke/MethodHandle" ∧ y.cls ≠ "java/lang/invoke/VarHandle" ∧ (parseMethodDescriptor y.desc).map (fun d => d.parameters.length) = some n) (hfr : rm.frames + 1 = R.frames) (hlo : 8 + (maxL + 11) + rm.locals ≤ R.locals) (hce : cells + rm.cells ≤ R.cells) (hsl : slots + rm.slots ≤ R.slots) :
    k_Ask R s args cells slots y bytes maxL ret ws rm n := by
  refine ⟨hfr, hlo, hce, hsl, ?_, ?_, ht _ h5, ⟨hd.1, hd.2.1⟩, fun sig h => ?_⟩
  · rcases hw with ⟨hw, h4⟩ | ⟨hh, hw, h4⟩
    · exact pay_in ht (ev_goodIn hg h4 hw)
    · exact pay_in ht (ev_goodInW hg h4 hw)
  · rcases hw with ⟨hw, h4⟩ | ⟨hh, hw, h4⟩
    · exact Or.inl (ht _ h4)
    · exact Or.inr ⟨hh, ht _ h4⟩
  · have h2 := hd.2.2
    rw [h] at h2
    exact (Option.some.inj h2).symm
end KV52_dive
