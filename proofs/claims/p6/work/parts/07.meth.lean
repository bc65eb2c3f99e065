noncomputable section KV07_meth
/-! METHODS: the kinds of calls, returns, and every run of the evaluator a run of the machine. -/
def ev_objinit (n : Nat) : ev_I := fun st => match st with
  | (.inr (.inr (some (.inl _))) :: stk, r) => cond (Nat.ble (ev_cats stk) 8) (some (n, (stk, r))) none
  | _ => none
def ev_lay : List ev_V → List (Option ev_V)
  | [] => []
  | v :: l => cond (ev_long v) (some v :: none :: ev_lay l) (some v :: ev_lay l)
def ev_ent (nL : Nat) (as : List ev_V) : List (Option ev_V) := ev_lay as ++ List.replicate (nL - (ev_lay as).length) none
/-- what stops a method: 0 return, 1 an int, 2 a boolean, 3 a char, 4 a byte, 5 a reference -/
def ev_out (k : Nat) (stk : List ev_V) (h' : ev_Hp) : Option (Option ev_V × ev_Hp) := match k, stk with
  | 0, [] => some (none, h')
  | 1, [.inl v] => some (some (.inl v), h')
  | 2, [.inl (lo, hi)] => cond (decide (0 ≤ lo) && decide (hi ≤ 1)) (some (some (.inl (lo, hi)), h')) none
  | 3, [.inl (lo, hi)] => cond (decide (0 ≤ lo) && decide (hi ≤ 65535)) (some (some (.inl (lo, hi)), h')) none
  | 4, [.inl (lo, hi)] => cond (decide (0 ≤ lo) && decide (hi ≤ 127)) (some (some (.inl (lo, hi)), h')) none
  | 5, [.inr (.inr v)] => some (some (.inr (.inr v)), h')
  | _, _ => none
noncomputable def ev_M (mc : Nat → ev_E → Nat → Option (ev_I ⊕ Nat)) (nLOf cmOf smOf : Nat → Nat) (fuel : Nat) (d : Nat) : ev_E := Nat.rec (motive := fun _ => ev_E) (fun _ _ _ => none) (fun _ ih mid as h => match ev_run (mc mid ih) fuel 0 ([], ev_ent (nLOf mid) as, h, (0, 0)) with
    | some (k, _, (stk, _, h', (c1, n1))) => cond (Nat.ble (ev_lay as).length (nLOf mid) && (Nat.ble c1 (cmOf mid) && Nat.ble n1 (smOf mid))) (ev_out k stk h') none
    | none => none) d
theorem ev_M_s (mc : Nat → ev_E → Nat → Option (ev_I ⊕ Nat)) (nLOf cmOf smOf : Nat → Nat) (fuel : Nat) (d mid : Nat) (as : List ev_V) (h : ev_Hp) : ev_M mc nLOf cmOf smOf fuel (d + 1) mid as h = match ev_run (mc mid (ev_M mc nLOf cmOf smOf fuel d)) fuel 0 ([], ev_ent (nLOf mid) as, h, (0, 0)) with
    | some (k, _, (stk, _, h', (c1, n1))) => cond (Nat.ble (ev_lay as).length (nLOf mid) && (Nat.ble c1 (cmOf mid) && Nat.ble n1 (smOf mid))) (ev_out k stk h') none
    | none => none := rfl
def ev_stop (k : Nat) (cc : ByteArray) (pc : Nat) (ret : Option FieldType) : Prop := match k with
  | 0 => decode cc pc = .ok (.return_, 1) ∧ ret = none
  | 1 => decode cc pc = .ok (.ireturn, 1) ∧ ret = some .int
  | 2 => decode cc pc = .ok (.ireturn, 1) ∧ ret = some .boolean
  | 3 => decode cc pc = .ok (.ireturn, 1) ∧ ret = some .char
  | 4 => decode cc pc = .ok (.ireturn, 1) ∧ ret = some .byte
  | 5 => decode cc pc = .ok (.areturn, 1) ∧ ∃ rt, ret = some rt ∧ ((∃ n, rt = .object n) ∨ ∃ t, rt = .array t)
  | _ => True
/-- what the tables of a claim owe -/
def ev_Tab (l : Launch) (D : va_G) (cl : List vw_C) (A : Nat → Prop) (ex : Nat → Value) (tyOf : Nat → FieldType) (XT : State → Prop) (yOf : Nat → MethodName) (bOf : Nat → ByteArray) (nLOf : Nat → Nat) (retOf : Nat → Option FieldType) (wsOf : Nat → List Cond) (cmOf smOf : Nat → Nat) (mc : Nat → ev_E → Nat → Option (ev_I ⊕ Nat)) : Prop :=
  ∀ mid : Nat, (∃ E pc x, mc mid E pc = some x) → plainName (yOf mid).cls = true ∧ (∃ ws', wsOf mid = Cond.code (yOf mid) (bOf mid) (nLOf mid) (retOf mid) :: ws') ∧
    ∀ (d : Nat) (E : ev_E), 6 ≤ d → ev_Snd l D cl A ex tyOf XT yOf wsOf cmOf smOf d E → ∀ (p : Program) (e : Env) (R : Room) (s : State) (m : MethodId) (args : Array Value) (below : List Frame) (meth : Method) (c : Code) (Q : State → Prop) (ad0 : List Nat),
      p.tables.exec = Jvm.exec → c.code = bOf mid → c.maxLocals = nLOf mid → meth.name = (yOf mid).name → s.vm.findClass (yOf mid).cls = some m.cls → (∀ w ∈ wsOf mid, w.before args s = true) → XT s → (∀ q, s.heap.size ≤ q → A q) → R = ({ frames := d + 1, cells := cmOf mid, slots := smOf mid, locals := 64 * (d + 1) } : Room) →
      (∀ pc f, mc mid E pc = some (.inl f) → ev_Sim p l e R s m args below meth c Q (nLOf mid) D cl A s.heap ex ad0 tyOf pc f) ∧ (∀ pc k, mc mid E pc = some (.inr k) → ev_stop k (bOf mid) pc (retOf mid))
theorem ev_lay_len {ad : List Nat} {ex : Nat → Value} : ∀ {as : List ev_V} {vals : List Value}, ev_kR ad ex as vals → (lg_sl vals).length = (ev_lay as).length
  | [], vals, h => by rw [show vals = [] from h]; rfl
  | v :: as, vals, ⟨w, r, h1, h2, h3⟩ => by
    have ih := ev_lay_len h3
    rw [h1]
    show (lg_sl (w :: r)).length = (cond (ev_long v) (some v :: none :: ev_lay as) (some v :: ev_lay as)).length
    have e1 : lg_sl (w :: r) = (if w.category = 2 then [Slot.val w, .second] else [Slot.val w]) ++ lg_sl r := rfl
    rw [e1, List.length_append, ih]
    cases hv : ev_long v with
    | false =>
      rw [ev_cat h2 hv]
      simp [Nat.add_comm]
    | true =>
      match v, h2, hv with
      | .inr (.inl (lo, hi)), ⟨x, h4, _⟩, _ =>
        rw [h4]
        simp only [Value.category, cond_true, List.length_cons, if_true, List.length_nil]
        omega
theorem ev_lay_at {ad : List Nat} {ex : Nat → Value} : ∀ {as : List ev_V} {vals : List Value} (i0 : Nat), ev_kR ad ex as vals → ∀ (j : Nat) (v : ev_V), (ev_lay as)[j]? = some (some v) → ∃ w, (i0 + j, w) ∈ lv_args i0 vals ∧ ev_vR ad ex v w
  | [], vals, i0, h, j, v, hj => by simp [ev_lay] at hj
  | u :: as, vals, i0, ⟨w, r, h1, h2, h3⟩, j, v, hj => by
    rw [h1]
    have hj : (cond (ev_long u) (some u :: none :: ev_lay as) (some u :: ev_lay as))[j]? = some (some v) := hj
    show ∃ x, (i0 + j, x) ∈ (i0, w) :: lv_args (if w.category = 2 then i0 + 2 else i0 + 1) r ∧ ev_vR ad ex v x
    cases hu : ev_long u with
    | false =>
      rw [hu] at hj
      rw [ev_cat h2 hu]
      match j, hj with
      | 0, hj =>
        cases hj
        exact ⟨w, List.mem_cons_self, h2⟩
      | j + 1, hj =>
        obtain ⟨x, hx, hr⟩ := ev_lay_at (i0 + 1) h3 j v (by simpa using hj)
        exact ⟨x, List.mem_cons_of_mem _ (by rw [if_neg (by decide), show i0 + (j + 1) = i0 + 1 + j by omega]; exact hx), hr⟩
    | true =>
      rw [hu] at hj
      have hc : w.category = 2 := by
        match u, h2, hu with
        | .inr (.inl (lo, hi)), ⟨x, h4, _⟩, _ => rw [h4]; rfl
      rw [hc]
      match j, hj with
      | 0, hj =>
        cases hj
        exact ⟨w, List.mem_cons_self, h2⟩
      | 1, hj => simp at hj
      | j + 2, hj =>
        obtain ⟨x, hx, hr⟩ := ev_lay_at (i0 + 2) h3 j v (by simpa using hj)
        exact ⟨x, List.mem_cons_of_mem _ (by rw [if_pos rfl, show i0 + (j + 2) = i0 + 2 + j by omega]; exact hx), hr⟩
theorem ev_ent_ok {ad : List Nat} {ex : Nat → Value} {as : List ev_V} {vals : List Value} {nL : Nat} (h : ev_kR ad ex as vals) : ev_lR ad ex (ev_ent nL as) (lv_args 0 vals) := by
  intro j v hj
  unfold ev_ent at hj
  by_cases hl : j < (ev_lay as).length
  · rw [List.getElem?_append_left hl] at hj
    obtain ⟨w, h1, h2⟩ := ev_lay_at 0 h j v hj
    rw [Nat.zero_add] at h1
    exact ⟨w, h1, h2⟩
  · rw [List.getElem?_append_right (by omega), List.getElem?_replicate] at hj
    split at hj
    · cases hj
    · cases hj
section EvG
variable {p : Program} {l : Launch} {e : Env} {R : Room} {s : State} {m : MethodId} {args : Array Value} {below : List Frame} {meth : Method} {c : Code} {Q : State → Prop} {nL : Nat} {D : va_G} {cl : List vw_C} {A : Nat → Prop} {H0 : Heap} {ex : Nat → Value} {ad0 : List Nat} {tyOf : Nat → FieldType}
variable {cc : ByteArray} {pc : Nat} {XT : State → Prop} {yOf : Nat → MethodName} {wsOf : Nat → List Cond} {cmOf smOf : Nat → Nat} {d : Nat}
theorem ev_objinit_ok (hx : p.tables.exec = Jvm.exec) (hb : c.code = cc) (hml : c.maxLocals = nL) {own : String} (ho : s.vm.findClass own = some m.cls) {idx : Nat} (hlink : (Cond.methodLink own idx Lib.objectInit).before args s = true) (hinst : (Cond.instanceMethod Lib.objectInit).before args s = true) (hcode : (Cond.code Lib.objectInit ⟨#[0xb1]⟩ 1 none).before args s = true) (hd : decode cc pc = .ok (.invokespecial idx, 3)) (hfr : 1 ≤ R.frames) (hlo : 20 ≤ R.locals) : ev_Sim p l e R s m args below meth c Q nL D cl A H0 ex ad0 tyOf pc (ev_objinit (pc + 3)) := by
  intro st pc' st' h g
  obtain ⟨stk, r⟩ := st
  match stk, h with
  | .inr (.inr (some (.inl v))) :: stk, h =>
    obtain ⟨h1, h2⟩ := ev_bt1 h
    clear h
    cases h2
    intro H locs ls lv sv ws tys hK hP hD hS hh hl hn hL hs
    obtain ⟨w, q, rfl, hw, hq⟩ := hs
    have h3 : (q.map fun v => v.category).sum ≤ 8 := by rw [ev_cats_ok hq]; exact Nat.le_of_ble_eq_true h1
    obtain ⟨a, -, rfl⟩ := hw
    · refine W.objInit hx hb ho hlink hinst hcode (g := F0 m pc ls (.ref a :: q)) rfl (by rw [hml]; exact hl.1) rfl hd hfr ?_ (g H locs ls lv q ws tys hK hP hD hS hh hl hn hL hq)
      have h4 := lv_room (m := m) (pc := pc) (ls := ls) (rest := .ref a :: q) h3
      omega
theorem ev_recv_ok {i : Nat} {r0 : vw_C} {ws : va_W} {tys : List (ClassId × FieldType)} {h : ev_Hp} {as : List ev_V} {vals : List Value} {H : Heap} (hr : ev_recv i h as = true) (hc : cl[i]? = some r0) (hK : va_K D cl tys s) (hP : va_P D cl ws H) (hh : ev_hR ad0 tyOf tys ex h ws) (hv : ev_kR (ws.map Prod.fst) ex as vals) : ∃ b As, vals = .ref b :: As ∧ ∃ cell : Cell, H[b]? = some cell ∧ cell.vm.isStatics = false ∧ s.vm.findClass r0.1 = some cell.cls := by
  match as, hr, hv with
  | .inr (.inr (some (.inl k))) :: as', hr, ⟨w, r, h1, h2, h3⟩ =>
    obtain ⟨a, e2, hwk, rfl⟩ := ev_place h2
    have hr : (match ev_tg 5 h.2 k with
      | some (.inl (i', _)) => Nat.beq i' i
      | _ => false) = true := hr
    split at hr
    · next i' fs hq =>
      have e1 : i' = i := Nat.eq_of_beq_eq_true hr
      subst e1
      obtain ⟨vs, rfl, -, -⟩ := ev_cell hh hwk hq
      exact ⟨a, r, h1, va_recv hK hP hc hwk⟩
    · cases hr
theorem ev_callV_ok {own C : String} {index mid n i cm sm maxL : Nat} {bytes : ByteArray} {ret : Option FieldType} {Ts : List Cond} {r0 : vw_C} {E : ev_E} (S : CallFix p m c cc nL s args Ts own) (hE : ev_Snd l D cl A ex tyOf XT yOf wsOf cmOf smOf d E) (hcm : cm ≤ R.cells) (hsm : sm ≤ R.slots) (hX : ev_Xok A XT) (hXs : XT s) (hA : ∀ q, s.heap.size ≤ q → A q) (hc : cl[i]? = some r0) (hC : r0.1 = C)
    (cw : CallW R s args own C index (yOf mid) bytes maxL ret (wsOf mid) ({ frames := d, cells := cmOf mid, slots := smOf mid, locals := 64 * d } : Room) (cmOf mid) (smOf mid) n) (hd : decode cc pc = .ok (.invokevirtual index, 3)) : ev_Sim p l e R s m args below meth c Q nL D cl A s.heap ex ad0 tyOf pc (ev_call (pc + 3) mid (n + 1) (cmOf mid) (smOf mid) cm sm (ev_recv i) E) := by
  refine ev_call_gen hE hcm hsm (fun H locs cells slots ls w tys h h' rv as vals rest hK hP hD hS hh hsz hv hlen hr hrest h1 h2 hM => ?_)
  obtain ⟨b, As, rfl, hcell⟩ := ev_recv_ok hr hc hK hP hh hv
  rw [hC] at hcell
  exact va_runV S hM cw ⟨ev_blind hX, hcell, ev_start hX hXs hA hK hP hD hS hh⟩ rfl (by simpa using hlen) hsz (by simp) (lv_room hrest) hd ⟨h1, h2⟩
theorem ev_callVN_ok {own C host : String} {index mid n i cm sm maxL : Nat} {bytes : ByteArray} {ret : Option FieldType} {Ts : List Cond} {r0 : vw_C} {E : ev_E} (S : CallFix p m c cc nL s args Ts own) (hE : ev_Snd l D cl A ex tyOf XT yOf wsOf cmOf smOf d E) (hcm : cm ≤ R.cells) (hsm : sm ≤ R.slots) (hX : ev_Xok A XT) (hXs : XT s) (hA : ∀ q, s.heap.size ≤ q → A q) (hc : cl[i]? = some r0) (hC : r0.1 = C)
    (cw : va_CN R s args own index (yOf mid) host bytes maxL ret (wsOf mid) ({ frames := d, cells := cmOf mid, slots := smOf mid, locals := 64 * d } : Room) (cmOf mid) (smOf mid) n ∧ (Cond.instanceMethod (yOf mid)).before args s = true ∧ (Cond.selects C (yOf mid) (yOf mid)).before args s = true) (hd : decode cc pc = .ok (.invokevirtual index, 3)) : ev_Sim p l e R s m args below meth c Q nL D cl A s.heap ex ad0 tyOf pc (ev_call (pc + 3) mid (n + 1) (cmOf mid) (smOf mid) cm sm (ev_recv i) E) := by
  refine ev_call_gen hE hcm hsm (fun H locs cells slots ls w tys h h' rv as vals rest hK hP hD hS hh hsz hv hlen hr hrest h1 h2 hM => ?_)
  obtain ⟨b, As, rfl, hcell⟩ := ev_recv_ok hr hc hK hP hh hv
  rw [hC] at hcell
  exact va_runVN S hM cw ⟨ev_blind hX, hcell, ev_start hX hXs hA hK hP hD hS hh⟩ rfl (by simpa using hlen) hsz (by simp) (lv_room hrest) hd ⟨h1, h2⟩
theorem ev_callS_ok {own : String} {index mid n cm sm maxL : Nat} {bytes : ByteArray} {ret : Option FieldType} {Ts : List Cond} {E : ev_E} (S : CallFix p m c cc nL s args Ts own) (hE : ev_Snd l D cl A ex tyOf XT yOf wsOf cmOf smOf d E) (hcm : cm ≤ R.cells) (hsm : sm ≤ R.slots) (hX : ev_Xok A XT) (hXs : XT s) (hA : ∀ q, s.heap.size ≤ q → A q)
    (cw : CallB R s args own index (yOf mid) bytes maxL ret (wsOf mid) ({ frames := d, cells := cmOf mid, slots := smOf mid, locals := 64 * d } : Room) (cmOf mid) (smOf mid) n ∧ (Cond.static (yOf mid)).before args s = true) (hd : decode cc pc = .ok (.invokestatic index, 3)) : ev_Sim p l e R s m args below meth c Q nL D cl A s.heap ex ad0 tyOf pc (ev_call (pc + 3) mid n (cmOf mid) (smOf mid) cm sm ev_rc1 E) := by
  refine ev_call_gen hE hcm hsm (fun H locs cells slots ls w tys h h' rv as vals rest hK hP hD hS hh hsz hv hlen hr hrest h1 h2 hM => ?_)
  exact va_runS S hM cw ⟨ev_blind hX, ev_start hX hXs hA hK hP hD hS hh⟩ rfl hlen hsz rfl (lv_room hrest) hd ⟨h1, h2⟩
theorem ev_callSN_ok {own host : String} {index mid n cm sm maxL : Nat} {bytes : ByteArray} {ret : Option FieldType} {Ts : List Cond} {E : ev_E} (S : CallFix p m c cc nL s args Ts own) (hE : ev_Snd l D cl A ex tyOf XT yOf wsOf cmOf smOf d E) (hcm : cm ≤ R.cells) (hsm : sm ≤ R.slots) (hX : ev_Xok A XT) (hXs : XT s) (hA : ∀ q, s.heap.size ≤ q → A q)
    (cw : va_CN R s args own index (yOf mid) host bytes maxL ret (wsOf mid) ({ frames := d, cells := cmOf mid, slots := smOf mid, locals := 64 * d } : Room) (cmOf mid) (smOf mid) n ∧ (Cond.static (yOf mid)).before args s = true ∧ True) (hd : decode cc pc = .ok (.invokestatic index, 3)) : ev_Sim p l e R s m args below meth c Q nL D cl A s.heap ex ad0 tyOf pc (ev_call (pc + 3) mid n (cmOf mid) (smOf mid) cm sm ev_rc1 E) := by
  refine ev_call_gen hE hcm hsm (fun H locs cells slots ls w tys h h' rv as vals rest hK hP hD hS hh hsz hv hlen hr hrest h1 h2 hM => ?_)
  exact va_runSN S hM cw ⟨ev_blind hX, ev_start hX hXs hA hK hP hD hS hh⟩ rfl hlen hsz rfl (lv_room hrest) hd ⟨h1, h2⟩
theorem ev_callI_ok {own : String} {index mid n i cm sm maxL : Nat} {bytes : ByteArray} {Ts : List Cond} {r0 : vw_C} {E : ev_E} (S : CallFix p m c cc nL s args Ts own) (hE : ev_Snd l D cl A ex tyOf XT yOf wsOf cmOf smOf d E) (hcm : cm ≤ R.cells) (hsm : sm ≤ R.slots) (hX : ev_Xok A XT) (hXs : XT s) (hA : ∀ q, s.heap.size ≤ q → A q) (hc : cl[i]? = some r0)
    (cw : CallB R s args own index (yOf mid) bytes maxL none (wsOf mid) ({ frames := d, cells := cmOf mid, slots := smOf mid, locals := 64 * d } : Room) (cmOf mid) (smOf mid) n ∧ (yOf mid).name = "<init>" ∧ (Cond.instanceMethod (yOf mid)).before args s = true) (hd : decode cc pc = .ok (.invokespecial index, 3)) : ev_Sim p l e R s m args below meth c Q nL D cl A s.heap ex ad0 tyOf pc (ev_call (pc + 3) mid (n + 1) (cmOf mid) (smOf mid) cm sm (ev_recv i) E) := by
  refine ev_call_gen hE hcm hsm (fun H locs cells slots ls w tys h h' rv as vals rest hK hP hD hS hh hsz hv hlen hr hrest h1 h2 hM => ?_)
  obtain ⟨b, As, rfl, hcell⟩ := ev_recv_ok hr hc hK hP hh hv
  exact va_runI S hM cw ⟨ev_blind hX, ev_start hX hXs hA hK hP hD hS hh⟩ rfl (by simpa using hlen) hsz (by simp) (lv_room hrest) hd ⟨h1, h2⟩
theorem ev_callIN_ok {own host : String} {index mid n i cm sm maxL : Nat} {bytes : ByteArray} {Ts : List Cond} {r0 : vw_C} {E : ev_E} (S : CallFix p m c cc nL s args Ts own) (hE : ev_Snd l D cl A ex tyOf XT yOf wsOf cmOf smOf d E) (hcm : cm ≤ R.cells) (hsm : sm ≤ R.slots) (hX : ev_Xok A XT) (hXs : XT s) (hA : ∀ q, s.heap.size ≤ q → A q) (hc : cl[i]? = some r0)
    (cw : va_CN R s args own index (yOf mid) host bytes maxL none (wsOf mid) ({ frames := d, cells := cmOf mid, slots := smOf mid, locals := 64 * d } : Room) (cmOf mid) (smOf mid) n ∧ (yOf mid).name = "<init>" ∧ (Cond.instanceMethod (yOf mid)).before args s = true) (hd : decode cc pc = .ok (.invokespecial index, 3)) : ev_Sim p l e R s m args below meth c Q nL D cl A s.heap ex ad0 tyOf pc (ev_call (pc + 3) mid (n + 1) (cmOf mid) (smOf mid) cm sm (ev_recv i) E) := by
  refine ev_call_gen hE hcm hsm (fun H locs cells slots ls w tys h h' rv as vals rest hK hP hD hS hh hsz hv hlen hr hrest h1 h2 hM => ?_)
  obtain ⟨b, As, rfl, hcell⟩ := ev_recv_ok hr hc hK hP hh hv
  exact va_runIN S hM cw ⟨ev_blind hX, ev_start hX hXs hA hK hP hD hS hh⟩ rfl (by simpa using hlen) hsz (by simp) (lv_room hrest) hd ⟨h1, h2⟩
end EvG
/-- a method's end -/
theorem ev_end {l : Launch} {p : Program} {e : Env} {R : Room} {s : State} {m : MethodId} {args : Array Value} {below : List Frame} {meth : Method} {c : Code} {nL : Nat} {D : va_G} {cl : List vw_C} {A : Nat → Prop} {ex : Nat → Value} {tyOf : Nat → FieldType} {cc : ByteArray} {ret : Option FieldType} {ad : List Nat} {mc ms k pc : Nat} {rv : Option ev_V} {h' : ev_Hp} {stk : List ev_V} {L : List (Option ev_V)} {c1 n1 : Nat}
    (hx : p.tables.exec = Jvm.exec) (hb : c.code = cc) (hr : meth.sig.returnType = ret) (hlocks : meth.locks = false) (hst : ev_stop k cc pc ret) (ho : ev_out k stk h' = some (rv, h')) (h1 : c1 ≤ mc) (h2 : n1 ≤ ms) :
    ev_G p l e R s m args below meth c (MQ below (ev_Qo D cl A ex tyOf ad rv h') args s mc ms A) nL D cl A s.heap ex ad tyOf pc (stk, L, h', (c1, n1)) := by
  intro H locs ls lv sv ws tys hK hP hD hS hh hl hn hL hs
  refine W.widen (k := mc) (n := ms) h1 h2 ?_
  have post : ∀ (ov : Option Value) (t : State), ev_oR (ws.map Prod.fst) ex rv ov → t.heap = H → s.WarmedH t.vm → ev_Qo D cl A ex tyOf ad rv h' args s (.returned ov) t := fun ov t hov ht hW => ⟨⟨ov, ws, tys, rfl, hov, by rw [ht]; exact hP, va_K.moved hW.alike hK, hD, hh⟩, hS.F ht⟩
  match k, stk, hst, ho, hs with
  | 0, [], ⟨hd, hret⟩, ho, hs =>
    cases ho
    rw [show sv = [] from hs]
    exact W.vret hx hb (hr.trans hret) (fun t ht hW => post none t rfl ht hW) hS.2.2 hd hlocks
  | 1, [.inl v], ⟨hd, hret⟩, ho, ⟨w, r, e1, ⟨x, e2, hx1⟩, e3⟩ =>
    cases ho
    rw [e1, e2, show r = [] from e3]
    exact W.iret hx hb (hr.trans hret) (fun t ht hW => post (some (.int x)) t ⟨_, rfl, ⟨x, rfl, hx1⟩⟩ ht hW) hS.2.2 hd hlocks
  | 2, [.inl (lo, hi)], ⟨hd, hret⟩, ho, ⟨w, r, e1, ⟨x, e2, hx1, hx2⟩, e3⟩ =>
    obtain ⟨a1, a2, ho2⟩ := ev_bt ho
    rw [decide_eq_true_eq] at a1 a2
    cases ho2
    rw [e1, e2, show r = [] from e3]
    have hn9 := (ev_fit_ok (ad := ws.map Prod.fst) (ex := ex) (ty := .boolean) (v := .inl (lo, hi)) (w := .int x) (by show (decide (0 ≤ lo) && decide (hi ≤ 1)) = true; rw [decide_eq_true a1, decide_eq_true a2]; rfl) ⟨x, rfl, hx1, hx2⟩).1
    exact W.zret hx hb (hr.trans hret) hn9 (fun t ht hW => post (some (.int x)) t ⟨_, rfl, ⟨x, rfl, hx1, hx2⟩⟩ ht hW) hS.2.2 hd hlocks
  | 3, [.inl (lo, hi)], ⟨hd, hret⟩, ho, ⟨w, r, e1, ⟨x, e2, hx1, hx2⟩, e3⟩ =>
    obtain ⟨a1, a2, ho2⟩ := ev_bt ho
    rw [decide_eq_true_eq] at a1 a2
    cases ho2
    rw [e1, e2, show r = [] from e3]
    obtain ⟨q, hq, rfl⟩ : ∃ q : Nat, q < 65536 ∧ x = nI q := by
      refine ⟨x.toInt.toNat, by omega, Int32.toInt_inj.mp ?_⟩
      rw [nI_toInt (by omega)]
      omega
    exact W.zret hx hb (hr.trans hret) (pk_charN hq).1 (fun t ht hW => post (some (.int (nI q))) t ⟨_, rfl, ⟨nI q, rfl, hx1, hx2⟩⟩ ht hW) hS.2.2 hd hlocks
  | 4, [.inl (lo, hi)], ⟨hd, hret⟩, ho, ⟨w, r, e1, ⟨x, e2, hx1, hx2⟩, e3⟩ =>
    obtain ⟨a1, a2, ho2⟩ := ev_bt ho
    rw [decide_eq_true_eq] at a1 a2
    cases ho2
    rw [e1, e2, show r = [] from e3]
    have hb9 : x.toInt8.toInt32 = x := by
      apply Int32.toInt_inj.mp
      rw [ev_b8_ok]
      unfold ev_b8
      rw [Int.bmod_def]
      split <;> omega
    have hn9 : narrow .byte (.int x) = .int x := by
      have h9 := pk_nb x
      rw [hb9] at h9
      exact h9
    exact W.zret hx hb (hr.trans hret) hn9 (fun t ht hW => post (some (.int x)) t ⟨_, rfl, ⟨x, rfl, hx1, hx2⟩⟩ ht hW) hS.2.2 hd hlocks
  | 5, [.inr (.inr v)], ⟨hd, rt, hret, hrt⟩, ho, ⟨w, r, e1, e2, e3⟩ =>
    cases ho
    rw [e1, show r = [] from e3]
    have hv9 : w = .null ∨ ∃ a, w = .ref a := by
      rcases ev_rf e2 with ⟨q, -⟩ | ⟨a, q, -⟩
      · exact Or.inl q
      · exact Or.inr ⟨a, q⟩
    exact W.aret hx hb (hr.trans hret) hrt hv9 (fun t ht hW => post (some w) t ⟨_, rfl, e2⟩ ht hW) hS.2.2 hd hlocks
theorem ev_out_h {k : Nat} {stk : List ev_V} {h1 h2 : ev_Hp} {rv : Option ev_V} (h : ev_out k stk h1 = some (rv, h2)) : h2 = h1 := by
  match k, stk, h with
  | 0, [], h => cases h; rfl
  | 1, [.inl v], h => cases h; rfl
  | 2, [.inl (lo, hi)], h =>
    obtain ⟨a1, a2, h9⟩ := ev_bt h
    cases h9
    rfl
  | 3, [.inl (lo, hi)], h =>
    obtain ⟨a1, a2, h9⟩ := ev_bt h
    cases h9
    rfl
  | 4, [.inl (lo, hi)], h =>
    obtain ⟨a1, a2, h9⟩ := ev_bt h
    cases h9
    rfl
  | 5, [.inr (.inr v)], h => cases h; rfl
/-- EVERY RUN OF THE EVALUATOR IS A RUN OF THE MACHINE -/
theorem ev_M_ok {l : Launch} {D : va_G} {cl : List vw_C} {A : Nat → Prop} {ex : Nat → Value} {tyOf : Nat → FieldType} {XT : State → Prop} {yOf : Nat → MethodName} {bOf : Nat → ByteArray} {nLOf : Nat → Nat} {retOf : Nat → Option FieldType} {wsOf : Nat → List Cond} {cmOf smOf : Nat → Nat} {mc : Nat → ev_E → Nat → Option (ev_I ⊕ Nat)} {fuel : Nat} (hT : ev_Tab l D cl A ex tyOf XT yOf bOf nLOf retOf wsOf cmOf smOf mc) :
    ∀ d : Nat, ev_Snd l D cl A ex tyOf XT yOf wsOf cmOf smOf (d + 6) (ev_M mc nLOf cmOf smOf fuel d)
  | 0 => fun mid as h rv h' hE => by cases hE
  | d + 1 => by
    intro mid as h rv h' hE w tys vals hv
    have ih := ev_M_ok hT (fuel := fuel) d
    rw [show d + 1 + 6 = d + 6 + 1 by omega]
    simp only [ev_M_s] at hE
    split at hE
    · next k pc1 stk L h1 c1 n1 hrun =>
      obtain ⟨a1, hE9⟩ := ev_bt1 hE
      clear hE
      rw [Bool.and_eq_true, Bool.and_eq_true] at a1
      obtain ⟨a1, a2, a3⟩ := a1
      have eh := ev_out_h hE9
      subst eh
      have hlay : (ev_lay as).length ≤ nLOf mid := Nat.le_of_ble_eq_true a1
      have hex : ∃ E pc x, mc mid E pc = some x := by
        cases fuel with
        | zero => cases hrun
        | succ f =>
          simp only [ev_run_s] at hrun
          split at hrun
          · next g hg => exact ⟨_, _, _, hg⟩
          · next g hg => exact ⟨_, _, _, hg⟩
          · cases hrun
      obtain ⟨hpl, ⟨ws', hws⟩, htab⟩ := hT mid hex
      refine Met.ofW (cc := bOf mid) (maxL := nLOf mid) (ret := retOf mid) hpl hws ?_
      intro p e s m args below meth c s₁ B hml hv0
      obtain ⟨rfl, hP, hK, hD, hA, hh, hXs⟩ := hv0
      have hts := atoms_spec (ws := wsOf mid) B.pre
      have hown : s.vm.findClass (yOf mid).cls = some m.cls := findClass_of_methodNamed B.named
      have hname : meth.name = (yOf mid).name := (name_of_methodNamed B.named B.method).1
      obtain ⟨hsim, hstop⟩ := htab (d + 6) _ (by omega) ih p e _ s m vals.toArray below meth c (MQ below (ev_Qo D cl A ex tyOf (w.map Prod.fst) rv h') vals.toArray s (cmOf mid) (smOf mid) A) (w.map Prod.fst) B.exec B.bytes hml hname hown hts hXs hA rfl
      obtain ⟨hk, hgo⟩ := ev_run_ok (code := mc mid (ev_M mc nLOf cmOf smOf fuel d)) hsim fuel 0 _ k pc1 _ hrun
      have hend := ev_end (l := l) (p := p) (e := e) (R := ({ frames := d + 6 + 1, cells := cmOf mid, slots := smOf mid, locals := 64 * (d + 6 + 1) } : Room)) (s := s) (m := m) (args := vals.toArray) (below := below) (meth := meth) (c := c) (nL := nLOf mid) (D := D) (cl := cl) (A := A) (ex := ex) (tyOf := tyOf) (ad := w.map Prod.fst) (L := L) B.exec B.bytes B.returns B.notSynchronized (hstop pc1 k hk) hE9 (Nat.le_of_ble_eq_true a2) (Nat.le_of_ble_eq_true a3)
      have g0 := hgo hend
      have hl := lv_entry vals (n := nLOf mid) (by rw [ev_lay_len hv]; exact hlay)
      rw [lg_entry_eq]
      exact g0 s.heap [] _ _ [] w tys hK hP hD va_S.rf ⟨hh.1, hh.2.1, fun _ _ z => z, hh.2.2.2⟩ hl (by unfold ev_ent; rw [List.length_append, List.length_replicate]; omega) (ev_ent_ok hv) rfl
    · cases hE
end KV07_meth
